/-! undo -/
theorem okD_take {P : pP} {D : List Nat} {k : Nat} (h : okD P D) (hk : k ≤ D.length) : okD P (D.take k) := by
  have hl : (D.take k).length = k := by rw [List.length_take]; omega
  refine ⟨by have := h.1; omega, fun n hn => ?_⟩
  have h1 := h.2 n (by omega)
  have e : (D.take k).getD n 0 = D.getD n 0 := by
    rw [List.getD_eq_getElem?_getD, List.getD_eq_getElem?_getD, List.getElem?_take_of_lt (by omega)]
  rw [List.take_take, Nat.min_eq_left (by omega), e]
  exact h1
theorem cG_of {P : pP} {D : List Nat} {mi : Nat → Nat → Int32} (h : gR P (rep P D) mi) (hs : stR mi 40 (some (D.map nI))) : cG P D mi := ⟨h.1, h.2.1, h.2.2.1, hs, h.2.2.2⟩
section UNDO
variable {R T : pR} {P : pP} {D : List Nat} {K : Nat → Option (List Nat)} {S : pS} {L : Nat} {mi : Nat → Nat → Int32} {ml : Nat → Nat → Int64} {d : Nat} {Q : Option Value → xM → Prop} {k : Nat}
theorem c27_renew (hP : okP P) : ∀ r k mi v, k + r = P.length → mi 38 2 = nI P.length → mi 38 3 = 0 → mi 38 4 = 10 → psR P mi → (∀ j, j < k → mi (42 + j) 4 = 0 ∧ mi (42 + j) 5 = 0 ∧ mi (42 + j) 6 = 0) → (v = xmk ∨ ∃ j, j < 6 ∧ v = .ref (42 + j)) → (∀ mi' v', gR P g0 mi' → sameG mi mi' → vOK v' → X 27 43 [.ref 38, .int (nI 0), v'] [] (SH L, mi', ml, MR) (d + 2) Q) → X 27 13 [.ref 38, .int (nI k), v] [] (SH L, mi, ml, MR) (d + 2) Q := by
  have hP6 := hP.1
  intro r
  induction r with
  | zero =>
    intro k mi v hk h2 h3 h4 hps hz hv q
    have hg : gR P g0 mi := ⟨h2, h3, h4, fun j hj => ⟨(hps j hj).1, (hps j hj).2.1, (hps j hj).2.2.1, (hps j hj).2.2.2, (hz j (by omega)).1, (hz j (by omega)).2.1, (hz j (by omega)).2.2⟩⟩
    rcases hv with rfl | ⟨j, hj, rfl⟩
    · rw [s27_13, h2, if_neg (nI_nlt (by omega) (by omega))]
      exact q mi _ hg (fun _ _ _ _ => rfl) (Or.inl rfl)
    · rw [s27_13v3 (shPlant L hj).1, h2, if_neg (nI_nlt (by omega) (by omega))]
      exact q mi _ hg (fun _ _ _ _ => rfl) (Or.inr (Or.inr (Or.inl ⟨j, hj, rfl⟩)))
  | succ r ih =>
    intro k mi v hk h2 h3 h4 hps hz hv q
    have hk6 : k < 6 := by omega
    have hS := (shPlant L (i := k) hk6).1
    have fin : X 27 13 [.ref 38, .int (nI (k + 1)), .ref (42 + k)] [] (SH L, xw (xw (xw mi (42 + k) 4 0) (42 + k) 5 0) (42 + k) 6 0, ml, MR) (d + 2) Q := by
      refine ih (k + 1) _ _ (by omega) ?_ ?_ ?_ (fun j hj => ?_) (fun j hj => ?_) (Or.inr ⟨k, hk6, rfl⟩) (fun mi' v' hg hs hv => q mi' v' hg (fun a j h1 h2 => by rw [hs a j h1 h2, xw_ne (by omega), xw_ne (by omega), xw_ne (by omega)]) hv)
      · rw [xw_ne (by omega), xw_ne (by omega), xw_ne (by omega)]; exact h2
      · rw [xw_ne (by omega), xw_ne (by omega), xw_ne (by omega)]; exact h3
      · rw [xw_ne (by omega), xw_ne (by omega), xw_ne (by omega)]; exact h4
      · have hj4 := hps j hj
        by_cases e : j = k
        · subst e
          simp only [xw_eq]
          exact hj4
        · simp only [xw_ne (show 42 + j ≠ 42 + k by omega)]
          exact hj4
      · by_cases e : j = k
        · subst e
          simp only [xw_eq]
          exact ⟨rfl, rfl, rfl⟩
        · simp only [xw_ne (show 42 + j ≠ 42 + k by omega)]
          exact hz j (by omega)
    rcases hv with rfl | ⟨j, hj, rfl⟩
    · rw [s27_13, h2, if_pos (nI_lt (by omega) (by omega)), c15_in hP6 h2 (by omega), ret1, s27_26 hS, s51 hS, ret0, s27_35 hS, nI_1]
      exact fin
    · rw [s27_13v3 (shPlant L hj).1, h2, if_pos (nI_lt (by omega) (by omega)), c15_in hP6 h2 (by omega), ret1, s27_26v3 (shPlant L hj).1 hS, s51 hS, ret0, s27_35 hS, nI_1]
      exact fin
theorem c27 (hP : okP P) (hD : okD P D) (h2 : mi 38 2 = nI P.length) (hps : psR P mi) (hst : stR mi 40 (some (D.map nI))) (q : ∀ mi', gR P (rep P D) mi' → sameG mi mi' → Q none (SH L, mi', ml, MR)) : Xm 27 [.ref 38] (SH L, mi, ml, MR) (d + 4) Q := by
  rw [s27]
  have hc : ∀ a j, a ≠ 38 → xw (xw mi 38 3 0) 38 4 10 a j = mi a j := fun a j h => by rw [xw_ne h, xw_ne h]
  refine c27_renew (d := d + 2) hP P.length 0 _ _ (by omega) ?_ ?_ ?_ (fun j hj => ?_) (fun j hj => absurd hj (by omega)) (Or.inl rfl) (fun mi' v' hg hs hv => ?_)
  · rw [xw_eq, if_neg (by omega), xw_eq, if_neg (by omega)]; exact h2
  · rw [xw_eq, if_neg (by omega), xw_eq, if_pos rfl]
  · rw [xw_eq, if_pos rfl]
  · rw [hc _ _ (by omega), hc _ _ (by omega), hc _ _ (by omega), hc _ _ (by omega)]
    exact hps j hj
  · refine c27_loop hP hD D.length 0 mi' v' (by omega) hg (stR_congr hst (by rw [hs _ _ (by omega) (by omega), hc _ _ (by omega)]) (fun j => by rw [hs _ _ (by omega) (by omega), hc _ _ (by omega)])) hv (fun mi2 hg2 hs2 => q mi2 hg2 (fun a j h1 h2 => by rw [hs2 a j h1 h2, hs a j h1 h2, hc a j h1]))
theorem cG_ps (h : cG P D mi) : psR P mi := fun j hj => ⟨(cG_pl h hj).1, (cG_pl h hj).2.1, (cG_pl h hj).2.2.1, (cG_pl h hj).2.2.2.1⟩
theorem c25 (hok : ok P D K) (h : Cst R T P D K S mi ml) (hk : k ≤ D.length) (q : ∀ mi', Cst R T P (D.take k) K S mi' ml → sameM mi mi' ml ml → Q none (SH L, mi', ml, MR)) : Xm 25 [.ref 38, .int (nI k)] (SH L, mi, ml, MR) (d + 5) Q := by
  have hG := h.2.2.1
  have hst := hG.2.2.2.1
  have hD := hok.2.1.1
  have key : ∀ m1, (∀ a j, a ≠ 40 → m1 a j = mi a j) → stR m1 40 (some ((D.take k).map nI)) → X 25 8 [.ref 38, .int (nI k)] [] (SH L, m1, ml, MR) (d + 5) Q := fun m1 hm hs1 => by
    rw [s25_8]
    refine c27 (D := D.take k) hok.1 (okD_take hok.2.1 hk) (by rw [hm _ _ (by omega)]; exact hG.1) (fun j hj => by rw [hm _ _ (by omega), hm _ _ (by omega), hm _ _ (by omega), hm _ _ (by omega)]; exact cG_ps hG j hj) hs1 (fun mi' hg hs => ?_)
    rw [ret0, s25_12]
    have hC := Cst_G (P' := P) (D' := D.take k) (mi' := mi') h (cG_of hg (stR_congr hs1 (hs _ _ (by omega) (by omega)) (fun j => hs _ _ (by omega) (by omega)))) (fun a j ha => by rw [hs a j (by omega) (by omega), hm a j (by omega)])
    exact q mi' hC.1 hC.2
  have e1 : mi 40 1 = nI D.length := hst.1.trans (congrArg nI (List.length_map _))
  rw [s25, s94 (sh40 L), if_neg (nI_nneg (by omega)), e1]
  by_cases hlt : k < D.length
  · rw [if_pos (nI_lt hlt (by omega)), ret0]
    refine key _ (fun a j ha => xw_ne ha j) ⟨by rw [xw_eq, if_pos rfl, List.length_map, List.length_take, Nat.min_eq_left hk], fun j hj => ?_⟩
    rw [List.length_map, List.length_take] at hj
    rw [xw_ne (by omega), hst.2 j (by rw [List.length_map]; omega), List.getD_eq_getElem?_getD, List.getD_eq_getElem?_getD, List.getElem?_map, List.getElem?_map, List.getElem?_take_of_lt (by omega)]
  · rw [if_neg (nI_nlt (by omega) (by omega)), ret0]
    refine key mi (fun a j _ => rfl) ?_
    rw [show k = D.length by omega, List.take_length]
    exact hst
theorem mG_back (h : mG P D mi) {mi' : Nat → Nat → Int32} (hk : k ≤ D.length) (h4 : mi' 68 4 = mi 68 4) (h10 : mi' 68 10 = nI k) (hp : ∀ a j, 73 ≤ a → a < 77 → mi' a j = mi a j) (h77 : ∀ j, j < 15 → mi' 77 j = nI (encN (rep P (D.take k)) j)) (h78 : ∀ q, mi' 78 q = mi 78 q) : mG P (D.take k) mi' := by
  have hl : (D.take k).length = k := by rw [List.length_take]; omega
  unfold mG
  rw [hl]
  refine ⟨h4.trans h.1, h10, fun i hi => ?_, h77, fun n j hn hj => ?_⟩
  · rw [hp _ _ (by omega) (by omega), hp _ _ (by omega) (by omega), hp _ _ (by omega) (by omega), hp _ _ (by omega) (by omega)]
    exact h.2.2.1 i hi
  · rw [h78, List.take_take, Nat.min_eq_left (by omega)]
    exact h.2.2.2.2 n j (by omega) hj
end UNDO
theorem op_undo (x : Int32) : OpI 116 197 [.int x] := op_of fun R T P D K S hok => by
  have hD := hok.2.1.1
  have C1 : ∀ L mi ml Q, Cst R T P D K S mi ml → Xm 116 [.ref 2, .int x] (SH L, mi, ml, MR) 99 Q = X 116 10 [.ref 2, .int x, xmk] [.int (nI D.length)] (SH L, mi, ml, MR) 99 Q := fun L mi ml Q h => by
    rw [s116, s20, ret1, s116_7 (sh40 L), c88 (sh40 L) h.2.2.1.2.2.2.1, ret1, show szI (some (D.map nI)) = nI D.length from congrArg nI (List.length_map _)]
  rcases num_cases x (D.length + 1) (by omega) with hx | ⟨k, hk, rfl⟩
  · refine ex_ret (.int (-1)) ⟨_, rfl⟩ hok (fun L mi ml Q h k => ?_) (fun L mi ml Q h k => ?_)
    · rw [C1 L mi ml Q h, s116_10]
      by_cases h0 : x < 0
      · rw [if_pos h0]; exact k mi ml h sameM_rf
      · rw [if_neg h0, if_pos (Decidable.not_not.mp (fun z => in_bad (n := D.length) (by omega) hx ⟨h0, z⟩))]; exact k mi ml h sameM_rf
    · rw [s197, h.2.2.1.2.1, show (0 : Int64) = (0 : Int32).toInt64 from rfl, c149, ret1, bI_f (in_bad (n := D.length) (by omega) hx), s197_11, if_pos rfl]; exact k mi ml h sameC_rf
  have hk : k ≤ D.length := by omega
  refine ⟨.int (nI D.length - nI k), R, T, P, D.take k, K, S, ⟨_, rfl⟩, ⟨hok.1, okD_take hok.2.1 hk, hok.2.2⟩, (fun L mi ml Q h q => ?_), (fun L mi ml Q h q => ?_)⟩
  · rw [C1 L mi ml Q h, s116_10, if_neg (nI_nneg (by omega)), if_neg (nI_nlt (by omega) (by omega))]
    refine c25 hok h hk (fun mi' h' s' => ?_)
    rw [ret0, s116_30]
    exact q _ _ h' s'
  · rw [s197, h.2.2.1.2.1, show (0 : Int64) = (0 : Int32).toInt64 from rfl, c149, ret1, bI_t (in_ok (n := D.length) (by omega) (by omega)), s197_11, if_neg i1_ne0, h.2.2.1.2.1]
    by_cases hlt : k < D.length
    · rw [if_pos ((nI_sub_pos (by omega) (by omega)).mpr hlt), show (15 : Int32) * nI k = nI (15 * k) from nI_mul 15 k]
      refine Eq.mpr (c188 (b := 0) (n := 15) (n0 := 600) (n2 := 15) rfl rfl (by omega) (by omega) (by omega) (by omega) (by omega)) ?_
      rw [ret0, s197_45]
      have hx : ∀ a j, a ≠ 77 → a ≠ 68 → xw (xcpy mi 78 (15 * k) 77 0 15) 68 10 (nI k) a j = mi a j := fun a j h1 h2 => by
        rw [xw_ne h2]
        simp only [xcpy]
        rw [if_neg (fun z => h1 z.1)]
      have hx8 : ∀ j, j ≠ 10 → xw (xcpy mi 78 (15 * k) 77 0 15) 68 10 (nI k) 68 j = mi 68 j := fun j h1 => by
        rw [xw_eq, if_neg h1]
        simp only [xcpy]
        rw [if_neg (by omega)]
      have hM := Mst_G (mi' := xw (xcpy mi 78 (15 * k) 77 0 15) 68 10 (nI k)) (D' := D.take k) h (mG_back h.2.2.1 hk (hx8 4 (by omega)) (by rw [xw_eq, if_pos rfl]) (fun a j h1 h2 => hx a j (by omega) (by omega)) (fun j hj => by
        rw [xw_ne (by omega)]
        simp only [xcpy]
        rw [if_pos ⟨trivial, by omega, by omega⟩, Nat.sub_zero]
        exact h.2.2.1.2.2.2.2 k j hlt hj) (fun j => hx 78 j (by omega) (by omega))) (fun j h1 h2 => hx8 j h2) (fun a j h1 h2 => hx a j (by omega) h1)
      exact q _ _ hM.1 hM.2
    · have e : k = D.length := by omega
      rw [if_neg (fun z => hlt ((nI_sub_pos (by omega) (by omega)).mp z))]
      have hM := Mst_G (mi' := xw mi 68 10 (nI k)) (D' := D.take k) h (mG_back h.2.2.1 hk (by rw [xw_eq, if_neg (by omega)]) (by rw [xw_eq, if_pos rfl]) (fun a j h1 h2 => xw_ne (by omega) j) (fun j hj => by
        rw [xw_ne (by omega), e, List.take_length]
        exact h.2.2.1.2.2.2.1 j hj) (fun j => xw_ne (by omega) j)) (fun j h1 h2 => by rw [xw_eq, if_neg h2]) (fun a j h1 h2 => xw_ne h1 j)
      exact q _ _ hM.1 hM.2
