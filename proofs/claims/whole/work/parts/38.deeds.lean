/-! deeds -/
theorem rep_add (P : pP) (D : List Nat) (c : Nat) : rep P (D ++ [c]) = dstep P (rep P D) c := by
  unfold rep
  rw [List.foldl_append]
  rfl
theorem okD_add {P : pP} {D : List Nat} {c : Nat} (h : okD P D) (hl : D.length < 40) (ha : allowed P (rep P D) c) : okD P (D ++ [c]) := by
  refine ⟨by rw [List.length_append]; exact hl, fun n hn => ?_⟩
  simp only [List.length_append, List.length_singleton] at hn
  by_cases hc : n < D.length
  · have h1 := h.2 n hc
    have e : (D ++ [c]).getD n 0 = D.getD n 0 := by simp [List.getD_eq_getElem?_getD, List.getElem?_append_left hc]
    rw [List.take_append_of_le_length (by omega), e]
    exact h1
  · have e : n = D.length := by omega
    subst e
    have e : (D ++ [c]).getD D.length 0 = c := by simp [List.getD_eq_getElem?_getD]
    rw [List.take_append_of_le_length (Nat.le_refl _), List.take_length, e]
    exact ha
section STEP
variable {P : pP} {g : pG} {i : Nat}
theorem dstep_0 (hi : i < 10) : dstep P g (10 * 0 + i) = (g.1, g.2.1, g.2.2.1, gD g + 1, gL g) := by
  unfold dstep
  rw [if_pos (by omega)]
theorem dstep_1 (hi : i < 10) : dstep P g (10 * 1 + i) = (up g.1 i (gW g i + 1), g.2.1, g.2.2.1, gD g, gL g) := by
  unfold dstep
  rw [show (10 * 1 + i) / 10 = 1 by omega, show (10 * 1 + i) % 10 = i by omega, if_neg (by decide), if_pos rfl]
theorem dstep_2 (hi : i < 10) : dstep P g (10 * 2 + i) = (g.1, up g.2.1 i (gP g i + 1), g.2.2.1, gD g, wordP (pl P i) (gP g i)) := by
  unfold dstep
  rw [show (10 * 2 + i) / 10 = 2 by omega, show (10 * 2 + i) % 10 = i by omega, if_neg (by decide), if_neg (by decide), if_pos rfl]
theorem dstep_3 (hi : i < 10) : dstep P g (10 * 3 + i) = (g.1, g.2.1, up g.2.2.1 i true, gD g, gL g) := by
  unfold dstep
  rw [show (10 * 3 + i) / 10 = 3 by omega, show (10 * 3 + i) % 10 = i by omega, if_neg (by decide), if_neg (by decide), if_neg (by decide)]
end STEP
section DEED
variable {R T : pR} {P : pP} {D : List Nat} {K : Nat → Option (List Nat)} {S : pS} {L : Nat} {mi mi' : Nat → Nat → Int32} {ml : Nat → Nat → Int64} {d : Nat} {Q : Option Value → xM → Prop} {a i n c : Nat}
theorem Cst_G {P' : pP} {D' : List Nat} (h : Cst R T P D K S mi ml) (hG : cG P' D' mi') (hc : ∀ a j, a < 38 ∨ 48 ≤ a → mi' a j = mi a j) : Cst R T P' D' K S mi' ml ∧ sameM mi mi' ml ml :=
  ⟨⟨cR_congr h.1 (fun a j _ _ => hc a j (by omega)), cT_congr h.2.1 (fun a j _ _ => hc a j (by omega)), hG, cK_congr h.2.2.2.1 (fun a j _ _ => hc a j (by omega)), cS_congr h.2.2.2.2 (fun j => hc 2 j (by omega)) (fun j => hc 67 j (by omega)) (fun _ => rfl)⟩, fun a j ha => hc a j (by omega), fun _ _ _ => rfl⟩
theorem Mst_G {D' : List Nat} (h : Mst R T P D K S mi ml) (hG : mG P D' mi') (h8 : ∀ j, j ≠ 4 → j ≠ 10 → mi' 68 j = mi 68 j) (hc : ∀ a j, a ≠ 68 → a < 73 ∨ 79 ≤ a → mi' a j = mi a j) : Mst R T P D' K S mi' ml ∧ sameC mi mi' ml ml :=
  ⟨⟨mR_congr h.1 (fun j => hc 69 j (by omega) (by omega)) (fun j => hc 70 j (by omega) (by omega)), mT_congr h.2.1 (fun j => hc 71 j (by omega) (by omega)) (fun j => hc 72 j (by omega) (by omega)), hG, mK_congr h.2.2.2.1 (fun j => hc 79 j (by omega) (by omega)) (fun j => hc 80 j (by omega) (by omega)), mS_congr h.2.2.2.2 (h8 14 (by omega) (by omega)) (h8 17 (by omega) (by omega)) (fun j => hc 81 j (by omega) (by omega)) (fun _ => rfl)⟩, fun a j ha => hc a j (by omega) (by omega), fun _ _ _ => rfl⟩
theorem cG_step (h : cG P D mi) (h2 : mi' 38 2 = mi 38 2) (h3 : mi' 38 3 = nI (gD (dstep P (rep P D) c))) (h4 : mi' 38 4 = nI (gL (dstep P (rep P D) c))) (hs : stR mi' 40 (some (D.map nI ++ [nI c]))) (hp : ∀ i, i < P.length → (∀ j, j < 4 → mi' (42 + i) j = mi (42 + i) j) ∧ mi' (42 + i) 4 = nI (gW (dstep P (rep P D) c) i) ∧ mi' (42 + i) 5 = nI (gP (dstep P (rep P D) c) i) ∧ mi' (42 + i) 6 = bI (gE (dstep P (rep P D) c) i = true)) : cG P (D ++ [c]) mi' := by
  unfold cG
  rw [rep_add]
  refine ⟨h2.trans h.1, h3, h4, by rw [List.map_append]; exact hs, fun i hi => ?_⟩
  obtain ⟨a1, a2, a3, a4, _, _, _⟩ := h.2.2.2.2 i hi
  obtain ⟨b, b5, b6, b7⟩ := hp i hi
  exact ⟨(b 0 (by omega)).trans a1, (b 1 (by omega)).trans a2, (b 2 (by omega)).trans a3, (b 3 (by omega)).trans a4, b5, b6, b7⟩
theorem sh40 (L : Nat) : isStrip L 40 40 := ⟨rfl, SH_ref (by decide +kernel), rfl⟩
theorem c23 {what : Nat} (hok : ok P D K) (h : Cst R T P D K S mi ml) (hl : D.length < 40) (hi : i < P.length) (hw : what ≤ 3) (k : ∀ mi', Cst R T P (D ++ [10 * what + i]) K S mi' ml → sameM mi mi' ml ml → Q none (SH L, mi', ml, MR)) : Xm 23 [.ref 38, .int (nI what), .int (nI i)] (SH L, mi, ml, MR) (d + 3) Q := by
  have hP := hok.1.1
  have hG := h.2.2.1
  have hst := hG.2.2.2.1
  have hb := rep_le P D
  have hS := (shPlant L (i := i) (by omega)).1
  have e : nI what * 10 + nI i = nI (10 * what + i) := by rw [show (10 : Int32) = nI 10 from rfl, nI_mul, nI_add, Nat.mul_comm]
  rw [s23, e, c93 (sh40 L) hst (by omega) (by rw [List.length_map]; exact hl), ret0]
  have hs1 := stR_add (v := nI (10 * what + i)) hst
  have hm1 : ∀ a j, a ≠ 40 → a ≠ 41 → (xw (xw mi (40 + 1) (D.map nI).length (nI (10 * what + i))) 40 1 (nI ((D.map nI).length + 1))) a j = mi a j := fun a j h1 h2 => by rw [xw_ne h1, xw_ne h2]
  generalize xw (xw mi (40 + 1) (D.map nI).length (nI (10 * what + i))) 40 1 (nI ((D.map nI).length + 1)) = m1 at hs1 hm1 ⊢
  have hpl : ∀ j, plR m1 (42 + j) (pl P j) (gW (rep P D) j) (gP (rep P D) j) (gE (rep P D) j) ∨ ¬ j < P.length := fun j => by
    by_cases hj : j < P.length
    · refine Or.inl ?_
      have := cG_pl hG hj
      unfold plR at this ⊢
      simp only [hm1 (42 + j) _ (by omega) (by omega)]
      exact this
    · exact Or.inr hj
  have hpi : ∀ j, j < P.length → plR m1 (42 + j) (pl P j) (gW (rep P D) j) (gP (rep P D) j) (gE (rep P D) j) := fun j hj => (hpl j).resolve_right (fun z => z hj)
  rw [s23_13, c15_in hP (by rw [hm1 _ _ (by omega) (by omega)]; exact hG.1) hi, ret1, s23_20 hS, s24 hS]
  rcases (by omega : what = 0 ∨ what = 1 ∨ what = 2 ∨ what = 3) with rfl | rfl | rfl | rfl
  · rw [if_pos (by decide), ret0, s23_23]
    have hC := Cst_G (mi' := xw m1 38 3 (m1 38 3 + 1)) h (cG_step (c := 10 * 0 + i) hG (by rw [xw_eq, if_neg (by omega), hm1 _ _ (by omega) (by omega)]) (by rw [dstep_0 (by omega), xw_eq, if_pos rfl, hm1 _ _ (by omega) (by omega), hG.2.1, nI_1]; rfl) (by rw [dstep_0 (by omega), xw_eq, if_neg (by omega), hm1 _ _ (by omega) (by omega), hG.2.2.1]; rfl) (stR_congr hs1 (xw_ne (by omega) _) (fun j => xw_ne (by omega) _)) (fun j hj => by
      have hp := hpi j hj
      rw [dstep_0 (by omega)]
      exact ⟨fun q _ => by rw [xw_ne (by omega), hm1 _ _ (by omega) (by omega)], by rw [xw_ne (by omega)]; exact hp.2.2.2.2.1, by rw [xw_ne (by omega)]; exact hp.2.2.2.2.2.1, by rw [xw_ne (by omega)]; exact hp.2.2.2.2.2.2⟩)) (fun a j ha => by rw [xw_ne (by omega), hm1 _ _ (by omega) (by omega)])
    exact k _ hC.1 hC.2
  · rw [if_neg (by decide), if_pos (by decide), ret0, s23_23]
    have hC := Cst_G (mi' := xw m1 (42 + i) 4 (m1 (42 + i) 4 + 1)) h (cG_step (c := 10 * 1 + i) hG (by rw [xw_ne (by omega), hm1 _ _ (by omega) (by omega)]) (by rw [dstep_1 (by omega), xw_ne (by omega), hm1 _ _ (by omega) (by omega), hG.2.1]; rfl) (by rw [dstep_1 (by omega), xw_ne (by omega), hm1 _ _ (by omega) (by omega), hG.2.2.1]; rfl) (stR_congr hs1 (xw_ne (by omega) _) (fun j => xw_ne (by omega) _)) (fun j hj => by
      have hp := hpi j hj
      rw [dstep_1 (by omega)]
      by_cases hij : j = i
      · subst hij
        refine ⟨fun q _ => by rw [xw_eq, if_neg (by omega), hm1 _ _ (by omega) (by omega)], ?_, by rw [xw_eq, if_neg (by omega)]; exact hp.2.2.2.2.2.1, by rw [xw_eq, if_neg (by omega)]; exact hp.2.2.2.2.2.2⟩
        rw [xw_eq, if_pos rfl, hp.2.2.2.2.1, nI_1]
        show _ = nI (up _ _ _ _)
        unfold up
        rw [if_pos rfl]
      · refine ⟨fun q _ => by rw [xw_ne (by omega), hm1 _ _ (by omega) (by omega)], ?_, by rw [xw_ne (by omega)]; exact hp.2.2.2.2.2.1, by rw [xw_ne (by omega)]; exact hp.2.2.2.2.2.2⟩
        rw [xw_ne (by omega), hp.2.2.2.2.1]
        show _ = nI (up _ _ _ _)
        unfold up
        rw [if_neg hij]
        rfl)) (fun a j ha => by rw [xw_ne (by omega), hm1 _ _ (by omega) (by omega)])
    exact k _ hC.1 hC.2
  · have hpp := hpi i hi
    have hbi := hb.2 i
    rw [if_neg (by decide), if_neg (by decide), if_pos (by decide), hpp.2.2.2.2.2.1, c53 hS hpp (hok.1.2 i hi) (by omega), ret1, s24_67 hS, ret0, s23_23]
    have hC := Cst_G (mi' := xw (xw m1 38 4 (nI (wordP (pl P i) (gP (rep P D) i)))) (42 + i) 5 (xw m1 38 4 (nI (wordP (pl P i) (gP (rep P D) i))) (42 + i) 5 + 1)) h (cG_step (c := 10 * 2 + i) hG (by rw [xw_ne (by omega), xw_eq, if_neg (by omega), hm1 _ _ (by omega) (by omega)]) (by rw [dstep_2 (by omega), xw_ne (by omega), xw_eq, if_neg (by omega), hm1 _ _ (by omega) (by omega), hG.2.1]; rfl) (by rw [dstep_2 (by omega), xw_ne (by omega), xw_eq, if_pos rfl]; rfl) (stR_congr hs1 (by rw [xw_ne (by omega), xw_ne (by omega)]) (fun j => by rw [xw_ne (by omega), xw_ne (by omega)])) (fun j hj => by
      have hp := hpi j hj
      rw [dstep_2 (by omega)]
      by_cases hij : j = i
      · subst hij
        refine ⟨fun q _ => by rw [xw_eq, if_neg (by omega), xw_ne (by omega), hm1 _ _ (by omega) (by omega)], by rw [xw_eq, if_neg (by omega), xw_ne (by omega)]; exact hp.2.2.2.2.1, ?_, by rw [xw_eq, if_neg (by omega), xw_ne (by omega)]; exact hp.2.2.2.2.2.2⟩
        rw [xw_eq, if_pos rfl, xw_ne (by omega), hp.2.2.2.2.2.1, nI_1]
        show _ = nI (up _ _ _ _)
        unfold up
        rw [if_pos rfl]
      · refine ⟨fun q _ => by rw [xw_ne (by omega), xw_ne (by omega), hm1 _ _ (by omega) (by omega)], by rw [xw_ne (by omega), xw_ne (by omega)]; exact hp.2.2.2.2.1, ?_, by rw [xw_ne (by omega), xw_ne (by omega)]; exact hp.2.2.2.2.2.2⟩
        rw [xw_ne (by omega), xw_ne (by omega), hp.2.2.2.2.2.1]
        show _ = nI (up _ _ _ _)
        unfold up
        rw [if_neg hij]
        rfl)) (fun a j ha => by rw [xw_ne (by omega), xw_ne (by omega), hm1 _ _ (by omega) (by omega)])
    exact k _ hC.1 hC.2
  · rw [if_neg (by decide), if_neg (by decide), if_neg (by decide), ret0, s23_23]
    have hC := Cst_G (mi' := xw m1 (42 + i) 6 1) h (cG_step (c := 10 * 3 + i) hG (by rw [xw_ne (by omega), hm1 _ _ (by omega) (by omega)]) (by rw [dstep_3 (by omega), xw_ne (by omega), hm1 _ _ (by omega) (by omega), hG.2.1]; rfl) (by rw [dstep_3 (by omega), xw_ne (by omega), hm1 _ _ (by omega) (by omega), hG.2.2.1]; rfl) (stR_congr hs1 (xw_ne (by omega) _) (fun j => xw_ne (by omega) _)) (fun j hj => by
      have hp := hpi j hj
      rw [dstep_3 (by omega)]
      by_cases hij : j = i
      · subst hij
        refine ⟨fun q _ => by rw [xw_eq, if_neg (by omega), hm1 _ _ (by omega) (by omega)], by rw [xw_eq, if_neg (by omega)]; exact hp.2.2.2.2.1, by rw [xw_eq, if_neg (by omega)]; exact hp.2.2.2.2.2.1, ?_⟩
        rw [xw_eq, if_pos rfl]
        show _ = bI (up _ _ _ _ = true)
        unfold up
        rw [if_pos rfl]
        rfl
      · refine ⟨fun q _ => by rw [xw_ne (by omega), hm1 _ _ (by omega) (by omega)], by rw [xw_ne (by omega)]; exact hp.2.2.2.2.1, by rw [xw_ne (by omega)]; exact hp.2.2.2.2.2.1, ?_⟩
        rw [xw_ne (by omega), hp.2.2.2.2.2.2]
        show _ = bI (up _ _ _ _ = true)
        unfold up
        rw [if_neg hij]
        rfl)) (fun a j ha => by rw [xw_ne (by omega), hm1 _ _ (by omega) (by omega)])
    exact k _ hC.1 hC.2
/-! the model's -/
theorem c188 {r0 r2 n0 n2 b : Nat} (h0 : (SH L)[r0]? = some (100, n0)) (h2 : (SH L)[r2]? = some (100, n2)) (hne : r0 ≠ r2) (ha : a + n ≤ n0) (hb : b + n ≤ n2) (hn0 : n0 < 10000) (hn2 : n2 < 10000) : Xm 188 [.ref r0, .int (nI a), .ref r2, .int (nI b), .int (nI n)] (SH L, mi, ml, MR) d Q = Q none (SH L, xcpy mi r0 a r2 b n, ml, MR) := by
  rw [s188 h0 h2]
  have hl := X_loop (mid := 188) (pc := 3) (d := d) (Q := Q) (fun k => [.ref r0, .int (nI a), .ref r2, .int (nI b), .int (nI n), .int (nI k)]) (fun k => (SH L, xcpy mi r0 a r2 b k, ml, MR)) n (fun k hk => by
    have key : xw (xcpy mi r0 a r2 b k) r2 (b + k) (xcpy mi r0 a r2 b k r0 (a + k)) = xcpy mi r0 a r2 b (k + 1) := by
      funext c q
      simp only [xw, xcpy]
      rw [if_neg (show ¬ (r0 = r2 ∧ b ≤ a + k ∧ a + k < b + k) from fun z => hne z.1)]
      by_cases z1 : c = r2
      · by_cases z2 : q = b + k
        · rw [if_pos ⟨z1, z2⟩, if_pos ⟨z1, by omega, by omega⟩]
          congr 1
          omega
        · rw [if_neg (fun z => z2 z.2)]
          by_cases z3 : b ≤ q ∧ q < b + k
          · rw [if_pos ⟨z1, z3⟩, if_pos ⟨z1, by omega, by omega⟩]
          · rw [if_neg (fun z => z3 z.2), if_neg (fun z => z3 (by omega))]
      · rw [if_neg (fun z => z1 z.1), if_neg (fun z => z1 z.1), if_neg (fun z => z1 z.1)]
    rw [s188_3 h0 h2 (fun _ => by rw [nI_add]; exact xin_nI (by omega) (by omega)) (fun _ => by rw [nI_add]; exact xin_nI (by omega) (by omega)), if_pos (nI_lt hk (by omega)), nI_add, nI_add, nI_clamp (by omega), nI_clamp (by omega), nI_1, key])
  have e0 : xcpy mi r0 a r2 b 0 = mi := by
    funext c q
    simp only [xcpy]
    rw [if_neg (by omega)]
  rw [e0] at hl
  refine hl.trans ?_
  rw [s188_3 h0 h2 (fun z => absurd z (nI_nlt (by omega) (by omega))) (fun z => absurd z (nI_nlt (by omega) (by omega))), if_neg (nI_nlt (by omega) (by omega))]
theorem c189 (h : mi 68 10 = nI n) (hn : n < 40) : Xm 189 [.ref 68] (SH L, mi, ml, MR) (d + 1) Q = Q none (SH L, xw (xcpy mi 77 0 78 (15 * n) 15) 68 10 (nI (n + 1)), ml, MR) := by
  rw [s189, h, show (15 : Int32) * nI n = nI (15 * n) from nI_mul 15 n]
  refine (c188 (a := 0) (n := 15) (n0 := 15) (n2 := 600) rfl rfl (by omega) (by omega) (by omega) (by omega) (by omega)).trans ?_
  rw [ret0, s189_21]
  have e : xcpy mi 77 0 78 (15 * n) 15 68 10 = nI n := by
    simp only [xcpy]
    rw [if_neg (by omega), h]
  rw [e, nI_1]
theorem mG_step (h : mG P D mi) (h4 : mi' 68 4 = mi 68 4) (h10 : mi' 68 10 = nI (D.length + 1)) (hp : ∀ a j, 73 ≤ a → a < 77 → mi' a j = mi a j) (h77 : ∀ k, k < 15 → mi' 77 k = nI (encN (dstep P (rep P D) c) k)) (h78 : ∀ q, mi' 78 q = xcpy mi 77 0 78 (15 * D.length) 15 78 q) : mG P (D ++ [c]) mi' := by
  unfold mG
  rw [rep_add, List.length_append]
  refine ⟨h4.trans h.1, h10, fun i hi => ?_, h77, fun n k hn hk => ?_⟩
  · rw [hp _ _ (by omega) (by omega), hp _ _ (by omega) (by omega), hp _ _ (by omega) (by omega), hp _ _ (by omega) (by omega)]
    exact h.2.2.1 i hi
  · rw [h78]
    simp only [xcpy, true_and]
    simp only [List.length_singleton] at hn
    by_cases hc : n < D.length
    · rw [if_neg (by omega), List.take_append_of_le_length (by omega)]
      exact h.2.2.2.2 n k hc hk
    · have e : n = D.length := by omega
      subst e
      rw [if_pos ⟨by omega, by omega⟩, List.take_append_of_le_length (Nat.le_refl _), List.take_length, show 0 + (15 * D.length + k - 15 * D.length) = k by omega]
      exact h.2.2.2.1 k hk
end DEED
