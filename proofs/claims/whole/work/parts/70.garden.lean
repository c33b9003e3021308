/-! garden -/
def plsN (ps : List Nat) : pP := (List.range (ps.length / 4)).map (fun i => (ps.getD (4 * i) 0, ps.getD (4 * i + 1) 0, ps.getD (4 * i + 2) 0, ps.getD (4 * i + 3) 0))
theorem pls_len (ps : List Nat) : (plsN ps).length = ps.length / 4 := by
  unfold plsN
  rw [List.length_map, List.length_range]
theorem pls_pl {ps : List Nat} {i : Nat} (hi : i < ps.length / 4) : pl (plsN ps) i = (ps.getD (4 * i) 0, ps.getD (4 * i + 1) 0, ps.getD (4 * i + 2) 0, ps.getD (4 * i + 3) 0) := by
  unfold pl plsN
  rw [List.getD_eq_getElem?_getD, List.getElem?_map, List.getElem?_range hi]
  rfl
theorem pls_ok {ps : List Nat} (h : psOK ps) (h4 : ps.length % 4 = 0) : okP (plsN ps) := by
  have hl := h.1
  refine ⟨by rw [pls_len]; omega, fun i hi => ?_⟩
  rw [pls_len] at hi
  rw [pls_pl hi]
  have h0 := h.2 (4 * i) (by omega)
  have h1 := h.2 (4 * i + 1) (by omega)
  have h2 := h.2 (4 * i + 2) (by omega)
  have h3 := h.2 (4 * i + 3) (by omega)
  exact ⟨h0.2.1 (by omega), h1.1, h2.2.2 (by omega), h2.1, h3.1⟩
theorem okD_nil (P : pP) : okD P [] := ⟨by decide, fun n hn => absurd hn (Nat.not_lt_zero n)⟩
section GARDEN
variable {R T : pR} {P : pP} {D : List Nat} {K : Nat → Option (List Nat)} {S : pS} {L : Nat} {mi : Nat → Nat → Int32} {ml : Nat → Nat → Int64} {d : Nat} {Q : Option Value → xM → Prop} {ps : List Nat}
theorem getD_nI (ps : List Nat) (j : Nat) : (ps.map nI).getD j 0 = nI (ps.getD j 0) := by
  rw [List.getD_eq_getElem?_getD, List.getD_eq_getElem?_getD, List.getElem?_map]
  cases ps[j]? <;> rfl
theorem c67 {i p : Nat} (hst : stR mi 36 (some (ps.map nI))) (hl : ps.length ≤ 24) (hi : i < 100) (hp : p < 100) : Xm 67 [.ref 35, .int (nI i), .int (nI p)] (SH L, mi, ml, MR) (d + 1) Q = Q (some (.int (nI (ps.getD (4 * i + p) 0)))) (SH L, mi, ml, MR) := by
  rw [s67, show nI i * 4 + nI p = nI (4 * i + p) by rw [show (4 : Int32) = nI 4 from rfl, nI_mul, nI_add, Nat.mul_comm], c90 (sh36 L) hst (by omega) (by rw [List.length_map]; omega) (by omega), getD_nI, ret1, s67_12]
theorem c50 {i : Nat} (hi : i < 6) (hst : stR mi 36 (some (ps.map nI))) (hl : ps.length ≤ 24) (k : ∀ mi', mi' (42 + i) 0 = nI (ps.getD (4 * i) 0) → mi' (42 + i) 1 = nI (ps.getD (4 * i + 1) 0) → mi' (42 + i) 2 = nI (ps.getD (4 * i + 2) 0) → mi' (42 + i) 3 = nI (ps.getD (4 * i + 3) 0) → (∀ b j, b ≠ 42 + i → mi' b j = mi b j) → Q none (SH L, mi', ml, MR)) : Xm 50 [.ref (42 + i), .ref 35, .int (nI i)] (SH L, mi, ml, MR) (d + 2) Q := by
  have hS := (shPlant L hi).1
  have hs : ∀ (v : Int32) (m : Nat → Nat → Int32) (j : Nat), stR m 36 (some (ps.map nI)) → stR (xw m (42 + i) j v) 36 (some (ps.map nI)) := fun v m j h => stR_congr h (xw_ne (by omega) _) (fun _ => xw_ne (by omega) _)
  rw [s50 hS]
  refine Eq.mpr (c67 (p := 0) hst hl (by omega) (by omega)) ?_
  rw [ret1, s50_7 hS]
  refine Eq.mpr (c67 (p := 1) (hs _ _ _ hst) hl (by omega) (by omega)) ?_
  rw [ret1, s50_17 hS]
  refine Eq.mpr (c67 (p := 2) (hs _ _ _ (hs _ _ _ hst)) hl (by omega) (by omega)) ?_
  rw [ret1, s50_27 hS]
  refine Eq.mpr (c67 (p := 3) (hs _ _ _ (hs _ _ _ (hs _ _ _ hst))) hl (by omega) (by omega)) ?_
  rw [ret1, s50_37 hS, s51 hS, ret0, s50_44 hS]
  refine k _ ?_ ?_ ?_ ?_ (fun b j hb => ?_)
  · simp [xw]
  · simp [xw]
  · simp [xw]
  · simp [xw]
  · simp [xw, hb]
theorem c21_loop (hok : psOK ps) (h4 : ps.length % 4 = 0) (k : ∀ mi' u, mi' 38 2 = nI (ps.length / 4) → psR (plsN ps) mi' → (∀ a j, a < 42 ∨ 48 ≤ a → mi' a j = mi a j) → Xm 25 [.ref 38, .int 0] (SH L, mi', ml, MR) (d + 4) (fun v μ' => X 21 45 [.ref 38, .ref 35, .int (nI (ps.length / 4)), u] (v.toList ++ []) μ' (d + 5) Q)) : ∀ r i m u, i + r = ps.length / 4 → m 38 2 = nI (ps.length / 4) → stR m 36 (some (ps.map nI)) → (∀ j, j < i → m (42 + j) 0 = nI (pl (plsN ps) j).1 ∧ m (42 + j) 1 = nI (pl (plsN ps) j).2.1 ∧ m (42 + j) 2 = nI (pl (plsN ps) j).2.2.1 ∧ m (42 + j) 3 = nI (pl (plsN ps) j).2.2.2) → (∀ a j, a < 42 ∨ 48 ≤ a → m a j = mi a j) → X 21 10 [.ref 38, .ref 35, .int (nI i), u] [] (SH L, m, ml, MR) (d + 5) Q := by
  have hl := hok.1
  intro r
  induction r with
  | zero =>
    intro i m u hi h2 hst hp hs
    rw [s21_10g, h2, if_neg (nI_nlt (by omega) (by omega)), show i = ps.length / 4 by omega]
    exact k m u h2 (fun j hj => hp j (by rw [pls_len] at hj; omega)) hs
  | succ r ih =>
    intro i m u hi h2 hst hp hs
    have hS := (shPlant L (i := i) (by omega)).1
    rw [s21_10g, h2, if_pos (nI_lt (by omega) (by omega)), c15_in (n := ps.length / 4) (by omega) h2 (by omega), ret1, s21_23g hS]
    refine c50 (d := d + 2) (by omega) hst hl (fun mi' a0 a1 a2 a3 a4 => ?_)
    rw [ret0, s21_34g, nI_1]
    refine ih (i + 1) mi' _ (by omega) (by rw [a4 _ _ (by omega)]; exact h2) (stR_congr hst (a4 _ _ (by omega)) (fun _ => a4 _ _ (by omega))) (fun j hj => ?_) (fun a j ha => by rw [a4 _ _ (by omega)]; exact hs a j ha)
    by_cases hji : j = i
    · subst hji
      rw [pls_pl (by omega)]
      exact ⟨a0, a1, a2, a3⟩
    · rw [a4 _ _ (by omega), a4 _ _ (by omega), a4 _ _ (by omega), a4 _ _ (by omega)]
      exact hp j (by omega)
theorem c94_0 (hst : stR mi 40 (some (D.map nI))) (hD : D.length ≤ 40) (k : ∀ mi', stR mi' 40 (some (([] : List Nat).map nI)) → (∀ a j, a ≠ 40 → mi' a j = mi a j) → Q none (SH L, mi', ml, MR)) : Xm 94 [.ref 40, .int 0] (SH L, mi, ml, MR) d Q := by
  have e : mi 40 1 = nI D.length := by
    have := hst.1
    rw [List.length_map] at this
    exact this
  rw [s94 (sh40 L), if_neg (by decide), e]
  by_cases h0 : 0 < D.length
  · rw [if_pos ((nI_pos_iff (by omega)).mpr h0)]
    exact k _ ⟨by rw [xw_eq, if_pos rfl]; rfl, fun j hj => absurd hj (Nat.not_lt_zero j)⟩ (fun a j ha => xw_ne ha j)
  · rw [if_neg (fun z => h0 ((nI_pos_iff (by omega)).mp z))]
    exact k mi ⟨by rw [e, show D.length = 0 by omega]; rfl, fun j hj => absurd hj (Nat.not_lt_zero j)⟩ (fun _ _ _ => rfl)
theorem c21 (hok : psOK ps) (h4 : ps.length % 4 = 0) (hst : stR mi 36 (some (ps.map nI))) (h40 : stR mi 40 (some (D.map nI))) (hD : D.length ≤ 40) (k : ∀ mi', cG (plsN ps) [] mi' → (∀ a j, a < 38 ∨ 48 ≤ a → mi' a j = mi a j) → Q none (SH L, mi', ml, MR)) : Xm 21 [.ref 38, .ref 35] (SH L, mi, ml, MR) (d + 6) Q := by
  have hl := hok.1
  have e : szI (some (ps.map nI)) = nI ps.length := congrArg nI (List.length_map _)
  rw [s21, s66, c88 (sh36 L) hst, ret1, s66_7, ret1, s21_5, e, show nI ps.length / 4 = nI (ps.length / 4) from nI_div (b := 4) (by omega) (by omega)]
  refine c21_loop (d := d + 1) (mi := xw mi 38 2 (nI (ps.length / 4))) hok h4 (fun mi' u a1 a2 a3 => ?_) (ps.length / 4) 0 _ _ (by omega) (by rw [xw_eq, if_pos rfl]) (stR_congr hst (xw_ne (by omega) _) (fun _ => xw_ne (by omega) _)) (fun j hj => absurd hj (Nat.not_lt_zero j)) (fun _ _ _ => rfl)
  have hm : ∀ a j, a ≠ 38 → (a < 42 ∨ 48 ≤ a) → mi' a j = mi a j := fun a j h1 h2 => by rw [a3 a j h2, xw_ne h1]
  rw [s25]
  refine c94_0 (D := D) (stR_congr h40 (hm _ _ (by omega) (by omega)) (fun _ => hm _ _ (by omega) (by omega))) hD (fun m1 b1 b2 => ?_)
  rw [ret0, s25_8]
  refine c27 (d := d) (pls_ok hok h4) (okD_nil _) (by rw [b2 _ _ (by omega), a1, pls_len]) (fun j hj => ?_) b1 (fun m2 d1 d2 => ?_)
  · rw [b2 _ _ (by omega), b2 _ _ (by omega), b2 _ _ (by omega), b2 _ _ (by omega)]
    exact a2 j hj
  · rw [ret0, s25_12, ret0, s21_45g]
    exact k m2 (cG_of d1 (stR_congr b1 (d2 _ _ (by omega) (by omega)) (fun _ => d2 _ _ (by omega) (by omega)))) (fun a j ha => by rw [d2 a j (by omega) (by omega), b2 a j (by omega), hm a j (by omega) (by omega)])
theorem c84 (k : ∀ mi', (∀ j, j < 3 → mi' (29 + 2 * j) 1 = -1) → (∀ a j, a < 29 ∨ 35 ≤ a → mi' a j = mi a j) → Q none (SH L, mi', ml, MR)) : Xm 84 [.ref 27] (SH L, mi, ml, MR) (d + 1) Q := by
  have hS := shKept L
  have step : ∀ m i u, i < 3 → X 84 2 [.ref 27, .int (nI i), u] [] (SH L, m, ml, MR) (d + 1) Q = X 84 2 [.ref 27, .int (nI (i + 1)), .ref (27 + 2 + 2 * i)] [] (SH L, xw m (27 + 2 + 2 * i) 1 (-1), ml, MR) (d + 1) Q := fun m i u hi => by
    rw [s84_2g hS.1 (hS.2 i hi).2 (fun _ => xin_nI hi (by omega)) (fun _ => by rw [nI_clamp (by omega)]; exact (hS.2 i hi).1), ofNat_nI, if_pos (nI_lt hi (by omega)), c95 (hS.2 i hi).2, ret0, s84_26g hS.1, nI_1]
  rw [s84 hS.1]
  refine Eq.mpr (step mi 0 xmk (by omega)) ?_
  rw [step _ 1 _ (by omega), step _ 2 _ (by omega)]
  refine Eq.mpr (s84_2g (rb16 := 27 + 2 + 2 * 0) hS.1 (hS.2 0 (by omega)).2 (fun z => absurd z (by decide)) (fun z => absurd z (by decide))) ?_
  rw [if_neg (by decide)]
  refine k _ (fun j hj => ?_) (fun a j ha => ?_)
  · rcases (by omega : j = 0 ∨ j = 1 ∨ j = 2) with rfl | rfl | rfl <;> simp [xw]
  · rw [xw_ne (by omega), xw_ne (by omega), xw_ne (by omega)]
/-! the model's -/
theorem c171_47 {t : Int32} (hok : psOK ps) (h4 : ps.length % 4 = 0) (k : ∀ mi', (∀ j, j < ps.length / 4 → mpR mi' j (pl (plsN ps) j)) → (∀ a j, a < 73 ∨ 77 ≤ a → mi' a j = mi a j) → X 171 125 [.ref 68, .int t, .int 0] [] (SH L, mi', ml, MR) d Q) : ∀ r i m, i + r = ps.length / 4 → m 68 4 = nI (ps.length / 4) → (∀ j, j < ps.length → m 82 j = nI (ps.getD j 0)) → (∀ j, j < i → mpR m j (pl (plsN ps) j)) → (∀ a j, a < 73 ∨ 77 ≤ a → m a j = mi a j) → X 171 47 [.ref 68, .int t, .int (nI i)] [] (SH L, m, ml, MR) d Q := by
  have hl := hok.1
  intro r
  induction r with
  | zero =>
    intro i m hi h2 h82 hp hs
    have hn : ¬ nI i < m 68 4 := by rw [h2]; exact nI_nlt (by omega) (by omega)
    rw [s171_47 (fun z => absurd z hn) (fun z => absurd z hn) (fun z => absurd z hn) (fun z => absurd z hn) (fun z => absurd z hn) (fun z => absurd z hn) (fun z => absurd z hn) (fun z => absurd z hn), if_neg hn]
    exact k m (fun j hj => hp j (by omega)) hs
  | succ r ih =>
    intro i m hi h2 h82 hp hs
    have hn : nI i < m 68 4 := by rw [h2]; exact nI_lt (by omega) (by omega)
    have e0 : (4 : Int32) * nI i = nI (4 * i) := nI_mul 4 i
    have e1 : nI (4 * i) + 1 = nI (4 * i + 1) := nI_1 _
    have e2 : nI (4 * i) + 2 = nI (4 * i + 2) := nI_add _ 2
    have e3 : nI (4 * i) + 3 = nI (4 * i + 3) := nI_add _ 3
    have x6 : xin (nI i) 6 = true := xin_nI (by omega) (by omega)
    rw [s171_47 (fun _ => by rw [e0]; exact xin_nI (by omega) (by omega)) (fun _ => x6) (fun _ => by rw [e0, e1]; exact xin_nI (by omega) (by omega)) (fun _ => x6) (fun _ => by rw [e0, e2]; exact xin_nI (by omega) (by omega)) (fun _ => x6) (fun _ => by rw [e0, e3]; exact xin_nI (by omega) (by omega)) (fun _ => x6), if_pos hn, e0, e1, e2, e3, nI_1, nI_clamp (by omega), nI_clamp (by omega), nI_clamp (by omega), nI_clamp (by omega), nI_clamp (by omega)]
    simp only [xw_ne (show (82 : Nat) ≠ 73 by decide), xw_ne (show (82 : Nat) ≠ 74 by decide), xw_ne (show (82 : Nat) ≠ 75 by decide)]
    rw [h82 _ (by omega), h82 _ (by omega), h82 _ (by omega), h82 _ (by omega)]
    refine ih (i + 1) _ (by omega) ?_ (fun j hj => ?_) (fun j hj => ?_) (fun a j ha => ?_)
    · rw [xw_ne (by omega), xw_ne (by omega), xw_ne (by omega), xw_ne (by omega)]; exact h2
    · rw [xw_ne (by omega), xw_ne (by omega), xw_ne (by omega), xw_ne (by omega)]; exact h82 j hj
    · by_cases hji : j = i
      · subst hji
        rw [pls_pl (by omega)]
        exact ⟨by simp [xw], by simp [xw], by simp [xw], by simp [xw]⟩
      · obtain ⟨p0, p1, p2, p3⟩ := hp j (by omega)
        exact ⟨by simp [xw, hji]; exact p0, by simp [xw, hji]; exact p1, by simp [xw, hji]; exact p2, by simp [xw, hji]; exact p3⟩
    · rw [xw_ne (by omega), xw_ne (by omega), xw_ne (by omega), xw_ne (by omega)]; exact hs a j ha
theorem enc_g0 : ∀ k : Fin 15, encN g0 k.val = if k.val = 14 then 10 else 0 := by decide
theorem c171_125 {t : Int32} : X 171 125 [.ref 68, .int t, .int 0] [] (SH L, mi, ml, MR) d Q = Q (some (.int (mi 68 4))) (SH L, arW (xw (arW mi 77 (encN g0) 15) 68 10 0) 80 (fun _ => 0) 3, ml, MR) := by
  have l1 := X_loop (mid := 171) (pc := 125) (d := d) (Q := Q) (fun k => [.ref 68, .int t, .int (nI k)]) (fun k => (SH L, arW mi 77 (encN g0) k, ml, MR)) 15 (fun k hk => by
    have e := enc_g0 ⟨k, hk⟩
    have es := arW_s (mi := mi) (a := 77) (c := encN g0) (n := k)
    rw [s171_125 (fun _ _ => xin_nI hk (by omega)) (fun _ _ => xin_nI hk (by omega)), if_pos (show nI k < 15 from nI_lt (b := 15) hk (by omega)), nI_clamp (by omega), nI_1, ← es]
    by_cases h14 : k = 14
    · rw [if_pos (show nI k = 14 by rw [h14]; rfl), show encN g0 k = 10 from e.trans (if_pos h14)]
      rfl
    · rw [if_neg (show ¬ nI k = 14 from fun z => h14 (nI_inj (b := 14) (by omega) (by omega) z)), show encN g0 k = 0 from e.trans (if_neg h14)]
      rfl)
  rw [arW_0] at l1
  refine l1.trans ?_
  rw [s171_125 (fun z => absurd z (by decide)) (fun z => absurd z (by decide)), if_neg (by decide)]
  have l2 := X_loop (mid := 171) (pc := 162) (d := d) (Q := Q) (fun k => [.ref 68, .int t, .int (nI k)]) (fun k => (SH L, arW (xw (arW mi 77 (encN g0) 15) 68 10 0) 80 (fun _ => 0) k, ml, MR)) 3 (fun k hk => by
    have es := arW_s (mi := xw (arW mi 77 (encN g0) 15) 68 10 0) (a := 80) (c := fun _ => 0) (n := k)
    rw [s171_162 (fun _ => xin_nI hk (by omega)), if_pos (show nI k < 3 from nI_lt (b := 3) hk (by omega)), nI_clamp (by omega), nI_1, ← es]
    rfl)
  rw [arW_0] at l2
  refine l2.trans ?_
  rw [s171_162 (fun z => absurd z (by decide)), if_neg (by decide), arW_ne (by omega), xw_eq, if_neg (by omega), arW_ne (by omega)]
end GARDEN
theorem flt_ok {n : Nat} {r : Option Nat × List Nat} (h : okR r) : fltV n r = -9 := by
  obtain ⟨a, ps⟩ := r
  obtain ⟨h1, h2⟩ := h
  cases h1
  show (if 0 < ps.length ∧ ps.length % 4 = 0 then (-9 : Int32) else nI n) = -9
  rw [if_pos h2]
theorem scan_at (xs : List Int32) : ∀ n i ps j, (scan xs n i ps).1 = some j → j < i + n := by
  intro n
  induction n with
  | zero => intro i ps j h; cases h
  | succ n ih =>
    intro i ps j h
    by_cases hb : ps.length % 4 = 0 ∧ xs.getD i 0 = 32
    · rw [scan_blank hb.1 hb.2] at h
      have := ih _ _ _ h
      omega
    · cases hv : valN ps.length (xs.getD i 0) with
      | none => rw [scan_none hb hv] at h; cases h; omega
      | some v =>
        rw [scan_some hb hv] at h
        have := ih _ _ _ h
        omega
theorem flt_no {xs : List Int32} (hx : xs.length ≤ 60) (h : ¬ okR (scan xs xs.length 0 [])) : ¬ fltV xs.length (scan xs xs.length 0 []) = -9 := by
  have hat := scan_at xs xs.length 0 []
  generalize scan xs xs.length 0 [] = r at h hat
  obtain ⟨a, ps⟩ := r
  have key : ∀ k, k ≤ 60 → ¬ nI k = -9 := fun k hk z => nI_nneg (k := k) (by omega) (by rw [z]; decide)
  cases a with
  | some j =>
    have := hat j rfl
    exact key j (by omega)
  | none =>
    show ¬ (if 0 < ps.length ∧ ps.length % 4 = 0 then (-9 : Int32) else nI xs.length) = -9
    rw [if_neg (fun z => h ⟨rfl, z⟩)]
    exact key _ hx
theorem op_garden (x : Int32) : OpI 108 171 [.int x] := op_ofL fun R T P D K S hok => by
  have hP := hok.1.1
  rcases num_cases x 4 (by omega) with hx | ⟨t, ht, rfl⟩
  · refine ex_SL (.int (-1)) S ⟨_, rfl⟩ hok (fun L mi ml Q hlt h k => ?_) (fun L mi ml Q h k => ?_)
    · rw [s108, c82n (shTexts L) (by omega) (by omega) hx, ret1, s108_8n]; exact k mi ml h sameM_rf
    · rw [s171, c156, ret1, bI_f (in_bad (n := 3) (by omega) hx), s171_4 (fun z => absurd rfl z), if_pos rfl]; exact k mi ml h sameC_rf
  cases hT : T t with
  | none =>
    refine ex_SL (.int (-3)) (sFound 1 S) ⟨_, rfl⟩ hok (fun L mi ml Q hlt h k => ?_) (fun L mi ml Q h k => ?_)
    · have hst := (h.2.1 t ht).1
      rw [hT] at hst
      rw [s108, c82 (shTexts L) (by omega) ht, ret1, s108_8 (strip_text ht), c87 (x := none) (strip_text ht) hst (by omega) (fun _ h => by cases h), ret1, s108_19 (strip_text ht), bI_t rfl, if_neg i1_ne0, c141_1, ret1, s108_27 (strip_text ht)]
      exact k _ _ (Cst_found hP h).1 (Cst_found hP h).2
    · have hst := (h.2.1 t ht).1
      rw [hT] at hst
      rw [s171, c156, ret1, bI_t (in_ok (n := 3) (by omega) (by omega)), s171_4 (fun _ => xin_nI ht (by omega)), if_neg i1_ne0, nI_clamp (by omega), hst, if_pos (by decide), c152_1, ret1, s171_23]
      exact k _ _ (Mst_found h).1 (Mst_found h).2
  | some xs =>
    have C1 : ∀ L mi ml (Q : Option Value → xM → Prop), lets mi → Cst R T P D K S mi ml → (∀ mi', stR mi' 36 (some ((scan xs xs.length 0 []).2.map nI)) → Cst R T P D K S mi' ml → sameM mi mi' ml ml → X 108 36 [.ref 2, .int (nI t), .ref (17 + 2 + 2 * t)] [.int (fltV xs.length (scan xs xs.length 0 []))] (SH L, mi', ml, MR) 99 Q) → Xm 108 [.ref 2, .int (nI t)] (SH L, mi, ml, MR) 99 Q := fun L mi ml Q hlt h q => by
      obtain ⟨hst, hln⟩ := h.2.1 t ht
      have hl := hln xs hT
      rw [hT] at hst
      rw [s108, c82 (shTexts L) (by omega) ht, ret1, s108_8 (strip_text ht), c87 (strip_text ht) hst (by omega) (fun _ h => by cases h; exact hl), ret1, s108_19 (strip_text ht), bI_f (by simp), if_pos rfl]
      refine c64 (d := 95) (strip_text ht) (by omega) (by omega) hl hlt hst (fun mi' h1 h2 => ?_)
      have hC := Cst_scr (ml' := ml) hP h (fun a j ha => h2 a j (by omega) (by omega)) (fun _ _ _ => rfl)
      exact q mi' h1 hC.1 hC.2
    have M1 : ∀ L mi ml (Q : Option Value → xM → Prop), Mst R T P D K S mi ml → xs.length ≤ 60 → (∀ mi', (okR (scan xs xs.length 0 []) → mi' 68 20 = nI ((scan xs xs.length 0 []).2.length / 4) ∧ ∀ j, j < (scan xs xs.length 0 []).2.length → mi' 82 j = nI ((scan xs xs.length 0 []).2.getD j 0)) → Mst R T P D K S mi' ml → sameC mi mi' ml ml → X 171 29 [.ref 68, .int (nI t), xmk] [.int (fltV xs.length (scan xs xs.length 0 []))] (SH L, mi', ml, MR) 99 Q) → Xm 171 [.ref 68, .int (nI t)] (SH L, mi, ml, MR) 99 Q := fun L mi ml Q h hl q => by
      have htx := mT_tx h.2.1 ht hT
      rw [s171, c156, ret1, bI_t (in_ok (n := 3) (by omega) (by omega)), s171_4 (fun _ => xin_nI ht (by omega)), if_neg i1_ne0, nI_clamp (by omega), htx.1, if_neg (nI_nneg (by omega))]
      refine c169 (d := 96) ht hl htx (fun mi' h1 h2 => ?_)
      have hM := Mst_scr (mi' := mi') h (fun j hj => h1 68 j (by omega) (fun _ => by omega)) (fun a j ha hb => h1 a j (by omega) (fun z => absurd z ha))
      exact q mi' h2 hM.1 hM.2
    have hpsok := scan_ok xs xs.length 0 [] ⟨by decide, fun j hj => absurd hj (Nat.not_lt_zero j)⟩
    by_cases hr : okR (scan xs xs.length 0 [])
    · have hf := flt_ok (n := xs.length) hr
      have hr2 := hr.2
      rw [hf] at C1 M1
      generalize (scan xs xs.length 0 []).2 = ps at C1 M1 hpsok hr2
      have hl24 := hpsok.1
      refine ⟨.int (nI (ps.length / 4)), R, T, plsN ps, [], fun _ => none, S, ⟨_, rfl⟩, ⟨pls_ok hpsok hr2.2, okD_nil _, fun k _ D h => by cases h⟩, (fun L mi ml Q hlt h k => ?_), (fun L mi ml Q h k => ?_)⟩
      · refine C1 L mi ml Q hlt h (fun m1 a1 a2 a3 => ?_)
        rw [s108_36 (strip_text ht), if_pos rfl]
        refine c21 (d := 92) hpsok hr2.2 a1 a2.2.2.1.2.2.2.1 hok.2.1.1 (fun m2 b1 b2 => ?_)
        rw [ret0, s108_55 (strip_text ht)]
        refine c84 (d := 97) (fun m3 c1 c2 => ?_)
        have hG : cG (plsN ps) [] m3 := cG_congr (by rw [pls_len]; omega) b1 (fun a j h1 h2 => c2 a j (by omega))
        rw [ret0, s108_62 (strip_text ht), s16, hG.1, ret1, s108_69 (strip_text ht), pls_len]
        have hm : ∀ a j, a < 29 ∨ (35 ≤ a ∧ a < 38) ∨ 48 ≤ a → m3 a j = m1 a j := fun a j ha => by rw [c2 a j (by omega), b2 a j (by omega)]
        refine k m3 ml ⟨cR_congr a2.1 (fun a j _ _ => hm a j (by omega)), cT_congr a2.2.1 (fun a j _ _ => hm a j (by omega)), hG, fun q hq => c1 q hq, cS_congr a2.2.2.2.2 (fun j => hm 2 j (by omega)) (fun j => hm 67 j (by omega)) (fun _ => rfl)⟩ (sameM_tr a3 ⟨fun a j ha => hm a j (by omega), fun _ _ _ => rfl⟩)
      · have hl60 := ((h.2.1 t ht).2 xs hT).1
        refine M1 L mi ml Q h hl60 (fun m1 a1 a2 a3 => ?_)
        obtain ⟨a20, a82⟩ := a1 hr
        rw [s171_29, if_pos rfl, a20]
        refine c171_47 (mi := xw m1 68 4 (nI (ps.length / 4))) hpsok hr2.2 (fun m2 b1 b2 => ?_) (ps.length / 4) 0 _ (by omega) (by rw [xw_eq, if_pos rfl]) (fun j hj => by rw [xw_ne (by omega)]; exact a82 j hj) (fun j hj => absurd hj (Nat.not_lt_zero j)) (fun _ _ _ => rfl)
        rw [c171_125]
        have e4 : m2 68 4 = nI (ps.length / 4) := by rw [b2 _ _ (by omega), xw_eq, if_pos rfl]
        rw [e4]
        have hm : ∀ a j, a ≠ 68 → a < 73 ∨ 77 < a → a ≠ 80 → arW (xw (arW m2 77 (encN g0) 15) 68 10 0) 80 (fun _ => 0) 3 a j = m1 a j := fun a j h1 h2 h3 => by
          rw [arW_ne h3, xw_ne h1, arW_ne (by omega), b2 a j (by omega), xw_ne h1]
        have hm68 : ∀ j, j ≠ 4 → j ≠ 10 → arW (xw (arW m2 77 (encN g0) 15) 68 10 0) 80 (fun _ => 0) 3 68 j = m1 68 j := fun j h1 h2 => by
          rw [arW_ne (by omega), xw_eq, if_neg h2, arW_ne (by omega), b2 _ _ (by omega), xw_eq, if_neg h1]
        refine k _ ml ⟨mR_congr a2.1 (fun j => hm _ _ (by omega) (by omega) (by omega)) (fun j => hm _ _ (by omega) (by omega) (by omega)), mT_congr a2.2.1 (fun j => hm _ _ (by omega) (by omega) (by omega)) (fun j => hm _ _ (by omega) (by omega) (by omega)), ⟨?_, ?_, fun i hi => ?_, fun q hq => ?_, fun n q hn => absurd hn (Nat.not_lt_zero n)⟩, fun q hq => ⟨?_, fun E hE => by cases hE⟩, mS_congr a2.2.2.2.2 (hm68 14 (by omega) (by omega)) (hm68 17 (by omega) (by omega)) (fun j => hm _ _ (by omega) (by omega) (by omega)) (fun _ => rfl)⟩ (sameC_tr a3 ⟨fun a j ha => hm a j (by omega) (by omega) (by omega), fun _ _ _ => rfl⟩)
        · rw [arW_ne (by omega), xw_eq, if_neg (by omega), arW_ne (by omega), e4, pls_len]
        · rw [arW_ne (by omega), xw_eq, if_pos rfl]
          rfl
        · rw [pls_len] at hi
          have hb := b1 i hi
          unfold mpR at hb
          rw [arW_ne (by omega), xw_ne (by omega), arW_ne (by omega), arW_ne (by omega), xw_ne (by omega), arW_ne (by omega), arW_ne (by omega), xw_ne (by omega), arW_ne (by omega), arW_ne (by omega), xw_ne (by omega), arW_ne (by omega)]
          exact hb
        · rw [arW_ne (by omega), xw_ne (by omega), arW_at hq]
          rfl
        · rw [arW_at hq]
          rfl
    · refine ex_SL (.int (-4)) S ⟨_, rfl⟩ hok (fun L mi ml Q hlt h k => ?_) (fun L mi ml Q h k => ?_)
      · have hl60 := (h.2.1 t ht).2 xs hT
        refine C1 L mi ml Q hlt h (fun m1 a1 a2 a3 => ?_)
        rw [s108_36 (strip_text ht), if_neg (flt_no hl60 hr)]
        exact k m1 ml a2 a3
      · have hl60 := ((h.2.1 t ht).2 xs hT).1
        refine M1 L mi ml Q h hl60 (fun m1 a1 a2 a3 => ?_)
        rw [s171_29, if_neg (flt_no hl60 hr)]
        exact k m1 ml a2 a3
