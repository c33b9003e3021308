/-! keep, on -/
section BECOME
variable {L : Nat} {mi : Nat → Nat → Int32} {ml : Nat → Nat → Int64} {d : Nat} {Q : Option Value → xM → Prop} {a n : Nat}
theorem c97 {b nb : Nat} {ys : List Int32} (hS : isStrip L a n) (hSb : isStrip L b nb) (hn : n < 1000) (hnb : nb < 1000) (hab : a ≠ b ∧ a + 1 ≠ b ∧ a ≠ b + 1) (hb : stR mi b (some ys)) (hy : ys.length ≤ n) (hyb : ys.length ≤ nb) (q : ∀ m', stR m' a (some ys) → (∀ c j, c ≠ a → c ≠ a + 1 → m' c j = mi c j) → Q none (SH L, m', ml, MR)) : Xm 97 [.ref a, .ref b] (SH L, mi, ml, MR) (d + 2) Q := by
  have hm : ∀ c j, c ≠ a → c ≠ a + 1 → xfill (xw mi a 1 (nI ys.length)) (a + 1) ys.length 0 c j = mi c j := fun c j h1 h2 => by rw [xfill_ne h2, xw_ne h1]
  have hs1 : stR (xfill (xw mi a 1 (nI ys.length)) (a + 1) ys.length 0) a (some (List.replicate ys.length 0)) := stR_begin
  have hl : (List.replicate ys.length (0 : Int32)).length = ys.length := List.length_replicate
  have hsb : stR (xfill (xw mi a 1 (nI ys.length)) (a + 1) ys.length 0) b (some ys) := stR_congr hb (hm _ _ (by omega) (by omega)) (fun j => hm _ _ (by omega) (by omega))
  have e1 : xfill (xw mi a 1 (nI ys.length)) (a + 1) ys.length 0 a 1 = nI ys.length := hs1.1.trans (congrArg nI hl)
  rw [s97 hS hSb, c87 hSb hb hnb (fun _ h => by cases h; exact hyb), ret1, bI_f (by simp), s97_8 hS hSb, if_pos rfl, hb.1, c92 hS hn hy, ret0, s97_25 hS hSb, e1]
  refine Eq.mpr (c96 (i := 0) (j := 0) hS hSb hs1 hsb hn hnb (by omega) hyb (by omega) (by omega)) ?_
  rw [ret0, s97_36 hS hSb]
  refine q _ ⟨?_, fun j hj => ?_⟩ (fun c j h1 h2 => ?_)
  · simp only [xcpy]
    rw [if_neg (by omega)]
    exact e1
  · simp only [xcpy]
    rw [if_pos ⟨trivial, by omega, by omega⟩, show 0 + (j - 0) = j by omega]
    exact hsb.2 j hj
  · simp only [xcpy]
    rw [if_neg (fun z => h2 z.1)]
    exact hm c j h1 h2
end BECOME
theorem op_keep (x : Int32) : OpI 117 198 [.int x] := op_of fun R T P D K S hok => by
  have hP := hok.1.1
  have hD := hok.2.1.1
  rcases num_cases x 3 (by omega) with hx | ⟨k, hk, rfl⟩
  · refine ex_ret (.int (-1)) ⟨_, rfl⟩ hok (fun L mi ml Q h q => ?_) (fun L mi ml Q h q => ?_)
    · rw [s117, c82n (shKept L) (by omega) (by omega) hx, ret1, s117_8n]; exact q mi ml h sameM_rf
    · rw [s198, show (0 : Int64) = (0 : Int32).toInt64 from rfl, show (2 : Int64) = (nI 2).toInt64 from rfl, c149, ret1, bI_f (in_bad (n := 2) (by omega) hx), s198_9, if_pos rfl]; exact q mi ml h sameC_rf
  have hS := fun L => ((shKept L).2 k hk).2
  by_cases h0 : P.length = 0
  · refine ex_ret (.int (-4)) ⟨_, rfl⟩ hok (fun L mi ml Q h q => ?_) (fun L mi ml Q h q => ?_)
    · rw [s117, c82 (shKept L) (by omega) hk, ret1, s117_8 (hS L), s17, h.2.2.1.1, h0, if_neg (by decide), ret1, s117_22 (hS L), if_neg i1_ne0]; exact q mi ml h sameM_rf
    · rw [s198, show (0 : Int64) = (0 : Int32).toInt64 from rfl, show (2 : Int64) = (nI 2).toInt64 from rfl, c149, ret1, bI_t (in_ok (n := 2) (by omega) (by omega)), s198_9, if_neg i1_ne0, h.2.2.1.1, h0, if_pos (by decide)]; exact q mi ml h sameC_rf
  refine ⟨.int (nI D.length), R, T, P, D, up K k (some D), S, ⟨_, rfl⟩, ⟨hok.1, hok.2.1, fun c hc E hE => ?_⟩, (fun L mi ml Q h q => ?_), (fun L mi ml Q h q => ?_)⟩
  · unfold up at hE
    by_cases e : c = k
    · rw [if_pos e] at hE
      cases hE
      exact hok.2.1
    · rw [if_neg e] at hE
      exact hok.2.2 c hc E hE
  · have hst := h.2.2.1.2.2.2.1
    have hlm : (D.map nI).length ≤ 40 := by rw [List.length_map]; exact hD
    rw [s117, c82 (shKept L) (by omega) hk, ret1, s117_8 (hS L), s17, h.2.2.1.1, if_pos ((nI_pos_iff (by omega)).mpr (by omega)), ret1, s117_22 (hS L), if_pos rfl, s20, ret1, s117_36 (hS L) (sh40 L)]
    refine c97 (hS L) (sh40 L) (by omega) (by omega) ⟨by omega, by omega, by omega⟩ hst hlm hlm (fun m' hs hc => ?_)
    rw [ret0, s117_39 (hS L), c88 (hS L) hs, ret1, s117_43 (hS L), show szI (some (D.map nI)) = nI D.length from congrArg nI (List.length_map _)]
    refine q m' ml ⟨cR_congr h.1 (fun a j _ _ => hc a j (by omega) (by omega)), cT_congr h.2.1 (fun a j _ _ => hc a j (by omega) (by omega)), cG_congr hP h.2.2.1 (fun a j _ _ => hc a j (by omega) (by omega)), fun c hc3 => ?_, cS_congr h.2.2.2.2 (fun j => hc 2 j (by omega) (by omega)) (fun j => hc 67 j (by omega) (by omega)) (fun _ => rfl)⟩ ⟨fun a j ha => hc a j (by omega) (by omega), fun _ _ _ => rfl⟩
    unfold up
    by_cases e : c = k
    · subst e
      rw [if_pos rfl]
      exact hs
    · rw [if_neg e]
      exact stR_congr (h.2.2.2.1 c hc3) (hc _ _ (by omega) (by omega)) (fun j => hc _ _ (by omega) (by omega))
  · have e6 : (616 : Int32) * nI k = nI (616 * k) := nI_mul 616 k
    have e15 : nI (616 * k) + 15 = nI (616 * k + 15) := nI_add _ _
    have e615 : nI (616 * k) + 615 = nI (616 * k + 615) := nI_add _ _
    rw [s198, show (0 : Int64) = (0 : Int32).toInt64 from rfl, show (2 : Int64) = (nI 2).toInt64 from rfl, c149, ret1, bI_t (in_ok (n := 2) (by omega) (by omega)), s198_9, if_neg i1_ne0, h.2.2.1.1, if_neg (nI_ne0 (by omega) (by omega)), e6]
    refine Eq.mpr (c188 (a := 0) (n := 15) (n0 := 15) (n2 := 1848) rfl rfl (by omega) (by omega) (by omega) (by omega) (by omega)) ?_
    rw [ret0, s198_43, e6, e15]
    refine Eq.mpr (c188 (a := 0) (n := 600) (n0 := 600) (n2 := 1848) rfl rfl (by omega) (by omega) (by omega) (by omega) (by omega)) ?_
    rw [ret0, s198_66 (by rw [e6, e615]; exact xin_nI (by omega) (by omega)) (xin_nI hk (by omega)), e6, e615, nI_clamp (by omega), nI_clamp (by omega)]
    have hx : ∀ a j, a ≠ 79 → xcpy (xcpy mi 77 0 79 (616 * k) 15) 78 0 79 (616 * k + 15) 600 a j = mi a j := fun a j h1 => by
      simp only [xcpy]
      rw [if_neg (fun z => h1 z.1), if_neg (fun z => h1 z.1)]
    have h9 : ∀ j, xcpy (xcpy mi 77 0 79 (616 * k) 15) 78 0 79 (616 * k + 15) 600 79 j = if 616 * k + 15 ≤ j ∧ j < 616 * k + 15 + 600 then mi 78 (j - (616 * k + 15)) else if 616 * k ≤ j ∧ j < 616 * k + 15 then mi 77 (j - 616 * k) else mi 79 j := fun j => by
      simp only [xcpy, true_and, Nat.zero_add]
      rw [if_neg (show ¬ (78 = 79 ∧ _) from fun z => absurd z.1 (by decide))]
    generalize xcpy (xcpy mi 77 0 79 (616 * k) 15) 78 0 79 (616 * k + 15) 600 = m1 at hx h9 ⊢
    rw [xw_ne (show 68 ≠ 80 by omega), xw_ne (show 68 ≠ 79 by omega), hx _ _ (by omega), h.2.2.1.2.1]
    have hc : ∀ a j, a ≠ 79 → a ≠ 80 → xw (xw m1 79 (616 * k + 615) (nI D.length)) 80 k 1 a j = mi a j := fun a j h1 h2 => by rw [xw_ne h2, xw_ne h1, hx a j h1]
    refine q _ ml ⟨mR_congr h.1 (fun j => hc _ _ (by omega) (by omega)) (fun j => hc _ _ (by omega) (by omega)), mT_congr h.2.1 (fun j => hc _ _ (by omega) (by omega)) (fun j => hc _ _ (by omega) (by omega)), mG_congr h.2.2.1 (hc _ _ (by omega) (by omega)) (hc _ _ (by omega) (by omega)) (fun a j _ _ => hc _ _ (by omega) (by omega)), fun c hc3 => ?_, mS_congr h.2.2.2.2 (hc _ _ (by omega) (by omega)) (hc _ _ (by omega) (by omega)) (fun j => hc _ _ (by omega) (by omega)) (fun _ => rfl)⟩ ⟨fun a j ha => hc a j (by omega) (by omega), fun _ _ _ => rfl⟩
    unfold up
    by_cases e : c = k
    · subst e
      simp only [if_true]
      refine ⟨by rw [xw_eq, if_pos rfl]; rfl, fun E hE => ?_⟩
      cases hE
      refine ⟨by rw [xw_ne (by omega), xw_eq, if_pos rfl], fun j hj => ?_, fun n j hn hj => ?_⟩
      · rw [xw_ne (by omega), xw_eq, if_neg (by omega), h9, if_neg (by omega), if_pos ⟨by omega, by omega⟩, Nat.add_sub_cancel_left]
        exact h.2.2.1.2.2.2.1 j hj
      · rw [xw_ne (by omega), xw_eq, if_neg (by omega), h9, if_pos ⟨by omega, by omega⟩, show 616 * c + 15 + 15 * n + j - (616 * c + 15) = 15 * n + j by omega]
        exact h.2.2.1.2.2.2.2 n j hn hj
    · simp only [if_neg e]
      obtain ⟨b1, b2⟩ := h.2.2.2.1 c hc3
      have ho : ∀ j, j < 616 → xw (xw m1 79 (616 * k + 615) (nI D.length)) 80 k 1 79 (616 * c + j) = mi 79 (616 * c + j) := fun j hj => by
        rw [xw_ne (by omega), xw_eq, if_neg (by omega), h9, if_neg (by omega), if_neg (by omega)]
      refine ⟨by rw [xw_eq, if_neg e, xw_ne (by omega), hx _ _ (by omega)]; exact b1, fun E hE => ?_⟩
      obtain ⟨c1, c2, c3⟩ := b2 E hE
      have hE4 := (hok.2.2 c hc3 E hE).1
      refine ⟨by rw [ho _ (by omega)]; exact c1, fun j hj => by rw [ho _ (by omega)]; exact c2 j hj, fun n j hn hj => ?_⟩
      rw [show 616 * c + 15 + 15 * n + j = 616 * c + (15 + 15 * n + j) by omega, ho _ (by omega), show 616 * c + (15 + 15 * n + j) = 616 * c + 15 + 15 * n + j by omega]
      exact c3 n j hn hj
