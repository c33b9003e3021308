/-! the deeds again, from the first on -/
def gR (P : pP) (g : pG) (mi : Nat → Nat → Int32) : Prop := mi 38 2 = nI P.length ∧ mi 38 3 = nI (gD g) ∧ mi 38 4 = nI (gL g) ∧ ∀ i, i < P.length → plR mi (42 + i) (pl P i) (gW g i) (gP g i) (gE g i)
def sameG (mi mi' : Nat → Nat → Int32) : Prop := ∀ a j, a ≠ 38 → (a < 42 ∨ 48 ≤ a) → mi' a j = mi a j
def psR (P : pP) (mi : Nat → Nat → Int32) : Prop := ∀ j, j < P.length → mi (42 + j) 0 = nI (pl P j).1 ∧ mi (42 + j) 1 = nI (pl P j).2.1 ∧ mi (42 + j) 2 = nI (pl P j).2.2.1 ∧ mi (42 + j) 3 = nI (pl P j).2.2.2
def vOK (v : Value) : Prop := v = xmk ∨ v = .null ∨ (∃ j, j < 6 ∧ v = .ref (42 + j)) ∨ ∃ z, v = .int z
theorem take_add {D : List Nat} {k : Nat} (hk : k < D.length) : D.take (k + 1) = D.take k ++ [D.getD k 0] := by
  rw [List.take_succ, List.getD_eq_getElem?_getD, List.getElem?_eq_getElem hk]
  rfl
section REPLAY
variable {P : pP} {D : List Nat} {L : Nat} {mi : Nat → Nat → Int32} {ml : Nat → Nat → Int64} {d : Nat} {Q : Option Value → xM → Prop} {i : Nat} {g : pG}
theorem c24 {what : Nat} (hP : P.length ≤ 6) (hp : okp (pl P i)) (h : gR P g mi) (hi : i < P.length) (hw : what ≤ 3) (hq : gP g i < 100) (k : ∀ mi', gR P (dstep P g (10 * what + i)) mi' → sameG mi mi' → Q none (SH L, mi', ml, MR)) : Xm 24 [.ref 38, .int (nI what), .ref (42 + i)] (SH L, mi, ml, MR) (d + 2) Q := by
  have hS := (shPlant L (i := i) (by omega)).1
  obtain ⟨h1, h2, h3, h4⟩ := h
  rw [s24 hS]
  rcases (by omega : what = 0 ∨ what = 1 ∨ what = 2 ∨ what = 3) with rfl | rfl | rfl | rfl
  · rw [if_pos (by decide)]
    rw [dstep_0 (by omega)] at k
    refine k _ ⟨by rw [xw_eq, if_neg (by omega)]; exact h1, by rw [xw_eq, if_pos rfl, h2, nI_1]; rfl, by rw [xw_eq, if_neg (by omega)]; exact h3, fun j hj => ?_⟩ (fun a j ha _ => xw_ne ha j)
    have hj4 := h4 j hj
    unfold plR at hj4 ⊢
    simp only [xw_ne (show 42 + j ≠ 38 by omega)]
    exact hj4
  · rw [if_neg (by decide), if_pos (by decide)]
    rw [dstep_1 (by omega)] at k
    refine k _ ⟨by rw [xw_ne (by omega)]; exact h1, by rw [xw_ne (by omega)]; exact h2, by rw [xw_ne (by omega)]; exact h3, fun j hj => ?_⟩ (fun a j ha _ => xw_ne (by omega) j)
    have hj4 := h4 j hj
    by_cases hij : j = i
    · subst hij
      refine ⟨by rw [xw_eq, if_neg (by omega)]; exact hj4.1, by rw [xw_eq, if_neg (by omega)]; exact hj4.2.1, by rw [xw_eq, if_neg (by omega)]; exact hj4.2.2.1, by rw [xw_eq, if_neg (by omega)]; exact hj4.2.2.2.1, ?_, by rw [xw_eq, if_neg (by omega)]; exact hj4.2.2.2.2.2.1, by rw [xw_eq, if_neg (by omega)]; exact hj4.2.2.2.2.2.2⟩
      rw [xw_eq, if_pos rfl, hj4.2.2.2.2.1, nI_1]
      show _ = nI (up _ _ _ _)
      unfold up
      rw [if_pos rfl]
    · have e : gW (up g.1 i (gW g i + 1), g.2.1, g.2.2.1, gD g, gL g) j = gW g j := by
        show up _ _ _ _ = _
        unfold up
        rw [if_neg hij]
        rfl
      rw [e]
      unfold plR at hj4 ⊢
      simp only [xw_ne (show 42 + j ≠ 42 + i by omega)]
      exact hj4
  · have hpp := h4 i hi
    rw [if_neg (by decide), if_neg (by decide), if_pos (by decide), hpp.2.2.2.2.2.1, c53 hS hpp hp (by omega), ret1, s24_67 hS]
    rw [dstep_2 (by omega)] at k
    refine k _ ⟨by rw [xw_ne (by omega), xw_eq, if_neg (by omega)]; exact h1, by rw [xw_ne (by omega), xw_eq, if_neg (by omega)]; exact h2, by rw [xw_ne (by omega), xw_eq, if_pos rfl]; rfl, fun j hj => ?_⟩ (fun a j ha _ => by rw [xw_ne (by omega), xw_ne ha])
    have hj4 := h4 j hj
    by_cases hij : j = i
    · subst hij
      refine ⟨by rw [xw_eq, if_neg (by omega), xw_ne (by omega)]; exact hj4.1, by rw [xw_eq, if_neg (by omega), xw_ne (by omega)]; exact hj4.2.1, by rw [xw_eq, if_neg (by omega), xw_ne (by omega)]; exact hj4.2.2.1, by rw [xw_eq, if_neg (by omega), xw_ne (by omega)]; exact hj4.2.2.2.1, by rw [xw_eq, if_neg (by omega), xw_ne (by omega)]; exact hj4.2.2.2.2.1, ?_, by rw [xw_eq, if_neg (by omega), xw_ne (by omega)]; exact hj4.2.2.2.2.2.2⟩
      rw [xw_eq, if_pos rfl, xw_ne (by omega), hj4.2.2.2.2.2.1, nI_1]
      show _ = nI (up _ _ _ _)
      unfold up
      rw [if_pos rfl]
    · have e : gP (g.1, up g.2.1 i (gP g i + 1), g.2.2.1, gD g, wordP (pl P i) (gP g i)) j = gP g j := by
        show up _ _ _ _ = _
        unfold up
        rw [if_neg hij]
        rfl
      rw [e]
      unfold plR at hj4 ⊢
      simp only [xw_ne (show 42 + j ≠ 42 + i by omega), xw_ne (show 42 + j ≠ 38 by omega)]
      exact hj4
  · rw [if_neg (by decide), if_neg (by decide), if_neg (by decide)]
    rw [dstep_3 (by omega)] at k
    refine k _ ⟨by rw [xw_ne (by omega)]; exact h1, by rw [xw_ne (by omega)]; exact h2, by rw [xw_ne (by omega)]; exact h3, fun j hj => ?_⟩ (fun a j ha _ => xw_ne (by omega) j)
    have hj4 := h4 j hj
    by_cases hij : j = i
    · subst hij
      refine ⟨by rw [xw_eq, if_neg (by omega)]; exact hj4.1, by rw [xw_eq, if_neg (by omega)]; exact hj4.2.1, by rw [xw_eq, if_neg (by omega)]; exact hj4.2.2.1, by rw [xw_eq, if_neg (by omega)]; exact hj4.2.2.2.1, by rw [xw_eq, if_neg (by omega)]; exact hj4.2.2.2.2.1, by rw [xw_eq, if_neg (by omega)]; exact hj4.2.2.2.2.2.1, ?_⟩
      rw [xw_eq, if_pos rfl]
      show _ = bI (up _ _ _ _ = true)
      unfold up
      rw [if_pos rfl]
      rfl
    · have e : gE (g.1, g.2.1, up g.2.2.1 i true, gD g, gL g) j = gE g j := by
        show up _ _ _ _ = _
        unfold up
        rw [if_neg hij]
        rfl
      rw [e]
      unfold plR at hj4 ⊢
      simp only [xw_ne (show 42 + j ≠ 42 + i by omega)]
      exact hj4
theorem c27_body {k : Nat} {v : Value} (hv : vOK v) (hst : stR mi 40 (some (D.map nI))) (hD : D.length ≤ 40) (hk : k ≤ D.length) : X 27 43 [.ref 38, .int (nI k), v] [] (SH L, mi, ml, MR) (d + 1) Q = if k < D.length then Xm 15 [.ref 38, .int ((D.map nI).getD k 0 - (D.map nI).getD k 0 / 10 * 10)] (SH L, mi, ml, MR) d (fun v μ' => X 27 76 [.ref 38, .int (nI k), .int ((D.map nI).getD k 0)] (v.toList ++ [.int ((D.map nI).getD k 0 / 10), .ref 38]) μ' (d + 1) Q) else Q none (SH L, mi, ml, MR) := by
  have hsz : szI (some (D.map nI)) = nI D.length := congrArg nI (List.length_map _)
  have hlm : (D.map nI).length ≤ 40 := by rw [List.length_map]; exact hD
  rcases hv with rfl | rfl | ⟨j, hj, rfl⟩ | ⟨z, rfl⟩
  · rw [s27_43, c88 (sh40 L) hst, ret1, s27_51, hsz]
    by_cases h : k < D.length
    · rw [if_pos h, if_pos (nI_lt h (by omega)), c90 (sh40 L) hst (by omega) hlm (by omega), ret1, s27_62]
    · rw [if_neg h, if_neg (nI_nlt (by omega) (by omega))]
  · rw [s27_43v2, c88 (sh40 L) hst, ret1, s27_51v2, hsz]
    by_cases h : k < D.length
    · rw [if_pos h, if_pos (nI_lt h (by omega)), c90 (sh40 L) hst (by omega) hlm (by omega), ret1, s27_62v2]
    · rw [if_neg h, if_neg (nI_nlt (by omega) (by omega))]
  · have hS := (shPlant L hj).1
    rw [s27_43v3 hS, c88 (sh40 L) hst, ret1, s27_51v3 hS, hsz]
    by_cases h : k < D.length
    · rw [if_pos h, if_pos (nI_lt h (by omega)), c90 (sh40 L) hst (by omega) hlm (by omega), ret1, s27_62v3 hS]
    · rw [if_neg h, if_neg (nI_nlt (by omega) (by omega))]
  · rw [s27_43v4, c88 (sh40 L) hst, ret1, s27_51v4, hsz]
    by_cases h : k < D.length
    · rw [if_pos h, if_pos (nI_lt h (by omega)), c90 (sh40 L) hst (by omega) hlm (by omega), ret1, s27_62v4]
    · rw [if_neg h, if_neg (nI_nlt (by omega) (by omega))]
theorem c27_loop (hP : okP P) (hD : okD P D) : ∀ r k mi v, k + r = D.length → gR P (rep P (D.take k)) mi → stR mi 40 (some (D.map nI)) → vOK v → (∀ mi', gR P (rep P D) mi' → sameG mi mi' → Q none (SH L, mi', ml, MR)) → X 27 43 [.ref 38, .int (nI k), v] [] (SH L, mi, ml, MR) (d + 4) Q := by
  intro r
  induction r with
  | zero =>
    intro k mi v hk hg hst hv q
    have hD1 := hD.1
    rw [c27_body hv hst hD.1 (by omega), if_neg (by omega)]
    rw [show k = D.length by omega, List.take_length] at hg
    exact q mi hg (fun _ _ _ _ => rfl)
  | succ r ih =>
    intro k mi v hk hg hst hv q
    have hD1 := hD.1
    have ha := hD.2 k (by omega)
    have e : (D.map nI).getD k 0 = nI (D.getD k 0) := by
      rw [List.getD_eq_getElem?_getD, List.getD_eq_getElem?_getD, List.getElem?_map, List.getElem?_eq_getElem (by omega)]
      rfl
    have hP6 := hP.1
    have hb := rep_le P (D.take k)
    have hbl : (D.take k).length ≤ D.length := by rw [List.length_take]; omega
    rw [c27_body hv hst hD.1 (by omega), if_pos (by omega), e]
    have tk := take_add (D := D) (k := k) (by omega)
    generalize D.getD k 0 = c at ha tk ⊢
    obtain ⟨a1, a2, _⟩ := ha
    have hbi := hb.2 (c % 10)
    rw [show nI c - nI c / 10 * 10 = nI (c % 10) from nI_rem (b := 10) (by omega) (by omega), show nI c / 10 = nI (c / 10) from nI_div (b := 10) (by omega) (by omega), c15_in hP6 hg.1 a1, ret1, s27_76 (shPlant L (by omega)).1]
    refine c24 hP6 (hP.2 _ a1) hg a1 a2 (by omega) (fun mi' hg' hs' => ?_)
    rw [ret0, s27_79, nI_1]
    refine ih (k + 1) mi' _ (by omega) ?_ (stR_congr hst (hs' _ _ (by omega) (by omega)) (fun j => hs' _ _ (by omega) (by omega))) (Or.inr (Or.inr (Or.inr ⟨_, rfl⟩))) (fun mi2 hg2 hs2 => q mi2 hg2 (fun a j h1 h2 => by rw [hs2 a j h1 h2, hs' a j h1 h2]))
    rw [tk, rep_add]
    rw [show 10 * (c / 10) + c % 10 = c by omega] at hg'
    exact hg'
end REPLAY
