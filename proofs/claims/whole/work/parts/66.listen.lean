/-! listen -/
def bl (g : Nat → Nat) : Nat → Nat × Nat
  | 0 => (0, 1000000)
  | k + 1 => if g k < (bl g k).2 then (k, g k) else bl g k
theorem bl_ok {g : Nat → Nat} (hg : ∀ k, g k ≤ 60) : ∀ k, (bl g (k + 1)).1 < k + 1 ∧ (bl g (k + 1)).2 = g (bl g (k + 1)).1 := by
  intro k
  induction k with
  | zero =>
    have := hg 0
    have e : bl g (0 + 1) = (0, g 0) := by
      show (if g 0 < 1000000 then _ else _) = _
      rw [if_pos (by omega)]
    rw [e]
    exact ⟨by omega, rfl⟩
  | succ k ih =>
    by_cases h : g (k + 1) < (bl g (k + 1)).2
    · have e : bl g (k + 1 + 1) = (k + 1, g (k + 1)) := by
        show (if g (k + 1) < (bl g (k + 1)).2 then _ else _) = _
        rw [if_pos h]
      rw [e]
      exact ⟨by omega, rfl⟩
    · have e : bl g (k + 1 + 1) = bl g (k + 1) := by
        show (if g (k + 1) < (bl g (k + 1)).2 then _ else _) = _
        rw [if_neg h]
      rw [e]
      exact ⟨by omega, ih.2⟩
def lsW (mi : Nat → Nat → Int32) (a : Nat) (xs : List Int32) : Nat → Nat → Nat → Int32
  | 0 => mi
  | k + 1 => arW mi a (cV xs k 60) 10
theorem lsW_s {mi : Nat → Nat → Int32} {a : Nat} {xs : List Int32} : ∀ k, arW (lsW mi a xs k) a (cV xs k 60) 10 = lsW mi a xs (k + 1) := by
  intro k
  cases k with
  | zero => rfl
  | succ k => exact arW_arW
theorem lsW_ne {mi : Nat → Nat → Int32} {a : Nat} {xs : List Int32} {b j : Nat} (h : b ≠ a) : ∀ k, lsW mi a xs k b j = mi b j := by
  intro k
  cases k with
  | zero => rfl
  | succ k => exact arW_ne h
abbrev gM (xs : List Int32) (k : Nat) : Nat := mxN (cV xs k 60) 10
theorem gM_le (xs : List Int32) (k : Nat) : gM xs k ≤ 60 := mxN_le 10 (cV_le xs k 60)
section LISTEN
variable {R T : pR} {L : Nat} {mi : Nat → Nat → Int32} {ml : Nat → Nat → Int64} {d : Nat} {Q : Option Value → xM → Prop} {r : Nat} {xs : List Int32}
theorem c13_pos (h : clR mi xs) (hp : ∀ k, 0 < gM xs k) : Xm 13 [.ref 62] (SH L, mi, ml, MR) (d + 3) Q = Q (some (.int (nI (bl (gM xs) 9).1))) (SH L, lsW mi 64 xs 9, ml, MR) := by
  rw [s13]
  have hl := X_loop (mid := 13) (pc := 7) (d := d + 3) (Q := Q) (fun k => [.ref 62, .int (if k = 0 then -9 else nI (bl (gM xs) k).1), .int (if k = 0 then 0 else nI (bl (gM xs) k).2), .int (nI k), if k = 0 then xmk else .int (nI (gM xs (k - 1)))]) (fun k => (SH L, lsW mi 64 xs k, ml, MR)) 9 (fun k hk => by
    have hle := gM_le xs k
    have hpk := hp k
    have hcl : clR (lsW mi 64 xs k) xs := fun j hj => by rw [lsW_ne (by omega)]; exact h j hj
    rw [s13_7g, if_pos (show nI k < 9 from nI_lt (b := 9) hk (by omega)), c12 hcl hk, lsW_s, ret1, s13_18g, if_pos ((nI_pos_iff (by omega)).mpr hpk), nI_1]
    simp only [if_neg (Nat.succ_ne_zero k), Nat.add_sub_cancel]
    cases k with
    | zero =>
      have e : bl (gM xs) (0 + 1) = (0, gM xs 0) := by
        show (if gM xs 0 < 1000000 then _ else _) = _
        rw [if_pos (by omega)]
      rw [if_pos rfl, if_pos rfl, e]
    | succ k =>
      have hb := bl_ok (gM_le xs) k
      have hb3 := gM_le xs (bl (gM xs) (k + 1)).1
      simp only [if_neg (Nat.succ_ne_zero k)]
      rw [if_neg (fun z => nI_nneg (k := (bl (gM xs) (k + 1)).1) (by omega) (by rw [z]; decide))]
      by_cases hlt : gM xs (k + 1) < (bl (gM xs) (k + 1)).2
      · have e : bl (gM xs) (k + 1 + 1) = (k + 1, gM xs (k + 1)) := by
          show (if gM xs (k + 1) < (bl (gM xs) (k + 1)).2 then _ else _) = _
          rw [if_pos hlt]
        rw [if_pos (nI_lt hlt (by omega)), e]
      · have e : bl (gM xs) (k + 1 + 1) = bl (gM xs) (k + 1) := by
          show (if gM xs (k + 1) < (bl (gM xs) (k + 1)).2 then _ else _) = _
          rw [if_neg hlt]
        rw [if_neg (show ¬ nI (gM xs (k + 1)) < nI (bl (gM xs) (k + 1)).2 from nI_nlt (by omega) (by omega)), e])
  refine hl.trans ?_
  rw [s13_7g, if_neg (by decide), if_neg (by decide)]
theorem c13_zero (h : clR mi xs) (hp : ∀ k, gM xs k = 0) : Xm 13 [.ref 62] (SH L, mi, ml, MR) (d + 3) Q = Q (some (.int (-9))) (SH L, lsW mi 64 xs 9, ml, MR) := by
  rw [s13]
  have hl := X_loop (mid := 13) (pc := 7) (d := d + 3) (Q := Q) (fun k => [.ref 62, .int (-9), .int 0, .int (nI k), if k = 0 then xmk else .int (nI (gM xs (k - 1)))]) (fun k => (SH L, lsW mi 64 xs k, ml, MR)) 9 (fun k hk => by
    have hpk := hp k
    have hcl : clR (lsW mi 64 xs k) xs := fun j hj => by rw [lsW_ne (by omega)]; exact h j hj
    rw [s13_7g, if_pos (show nI k < 9 from nI_lt (b := 9) hk (by omega)), c12 hcl hk, lsW_s, ret1, s13_18g, if_neg (fun z => by have := (nI_pos_iff (a := gM xs k) (by omega)).mp z; omega), nI_1]
    simp only [if_neg (Nat.succ_ne_zero k), Nat.add_sub_cancel])
  refine hl.trans ?_
  rw [s13_7g, if_neg (by decide)]
theorem c221_pos {i : Int32} (hr : r < 6) (h : mR R mi) (hR : R r = some xs) (hev : xs.length = 2 * (xs.length / 2)) (hg : ∀ i, i < xs.length / 2 → goodA xs i) (hp : ∀ k, 0 < gM xs k) : X 221 44 [.ref 68, .int i, .int (nI r), .int (nI 0), .int (-9), .int 1000000, .int 0, xmk] [] (SH L, mi, ml, MR) (d + 3) Q = Q (some (.int (nI (bl (gM xs) 9).1))) (SH L, xw (lsW mi 86 xs 9) 68 14 (nI (bl (gM xs) 9).2), ml, MR) := by
  have hl := X_loop (mid := 221) (pc := 44) (d := d + 3) (Q := Q) (fun k => [.ref 68, .int i, .int (nI r), .int (nI 0), .int (if k = 0 then -9 else nI (bl (gM xs) k).1), .int (nI (bl (gM xs) k).2), .int (nI k), if k = 0 then xmk else .int (nI (gM xs (k - 1)))]) (fun k => (SH L, lsW mi 86 xs k, ml, MR)) 9 (fun k hk => by
    have hle := gM_le xs k
    have hpk := hp k
    have h' : mR R (lsW mi 86 xs k) := mR_congr h (fun j => lsW_ne (by omega) k) (fun j => lsW_ne (by omega) k)
    have hb2 : (bl (gM xs) k).2 < 2 ^ 31 := by
      cases k with
      | zero => show 1000000 < 2 ^ 31; omega
      | succ k =>
        have hb := bl_ok (gM_le xs) k
        have hb3 := gM_le xs (bl (gM xs) (k + 1)).1
        omega
    rw [s221_44g, if_pos (show nI k < 9 from nI_lt (b := 9) hk (by omega)), c219 hr h' hR hev hg hk, lsW_s, ret1, s221_58g, if_neg (nI_ne0 hpk (by omega)), nI_1]
    simp only [if_neg (Nat.succ_ne_zero k), Nat.add_sub_cancel]
    by_cases hlt : gM xs k < (bl (gM xs) k).2
    · have e : bl (gM xs) (k + 1) = (k, gM xs k) := by
        show (if gM xs k < (bl (gM xs) k).2 then _ else _) = _
        rw [if_pos hlt]
      rw [if_pos (nI_lt hlt hb2), e]
    · have e : bl (gM xs) (k + 1) = bl (gM xs) k := by
        show (if gM xs k < (bl (gM xs) k).2 then _ else _) = _
        rw [if_neg hlt]
      have hk0 : k ≠ 0 := fun z => by
        subst z
        exact hlt (show gM xs 0 < 1000000 by omega)
      rw [if_neg (show ¬ nI (gM xs k) < nI (bl (gM xs) k).2 from nI_nlt (by omega) (by omega)), e, if_neg hk0])
  refine hl.trans ?_
  rw [s221_44g, if_neg (by decide), s154, ret1, s221_114g, if_neg (by decide)]
end LISTEN
theorem op_listen (x1 x2 : Int32) : OpI 129 221 [.int x1, .int x2] := op_of fun R T P D K S hok => by
  have hP := hok.1.1
  rcases num_cases x1 P.length (by omega) with hx | ⟨i, hi, rfl⟩
  · refine ex_ret (.int (-1)) ⟨_, rfl⟩ hok (fun L mi ml Q h k => ?_) (fun L mi ml Q h k => ?_)
    · rw [s129, c15_out h.2.2.1.1 hx, ret1, s129_8n]; exact k mi ml h sameM_rf
    · rw [s221, c172, ret1, h.2.2.1.1, bI_f (isP_out hP hx), s221_5, if_pos rfl]; exact k mi ml h sameC_rf
  have hS := fun L => (shPlant L (i := i) (by omega)).1
  rcases num_cases x2 6 (by omega) with hx | ⟨r, hr, rfl⟩
  · refine ex_ret (.int (-1)) ⟨_, rfl⟩ hok (fun L mi ml Q h k => ?_) (fun L mi ml Q h k => ?_)
    · rw [s129, c15_in hP h.2.2.1.1 hi, ret1, s129_8 (hS L), c82n (shRows L) (by omega) (by omega) hx, ret1, s129_22n, s147n, ret1, s129_25, if_neg (by decide)]; exact k mi ml h sameM_rf
    · rw [s221, c172, ret1, h.2.2.1.1, bI_t (isP_in hi hP), s221_5, if_neg i1_ne0, c155, ret1, bI_f (in_bad (n := 5) (by omega) hx), s221_12, if_pos rfl]; exact k mi ml h sameC_rf
  have hpw := pw_lt (R r)
  have C1 : ∀ L mi ml Q, Cst R T P D K S mi ml → Xm 129 [.ref 2, .int (nI i), .int (nI r)] (SH L, mi, ml, MR) 99 Q = Xm 147 [.ref 2, .ref (3 + 2 + 2 * r)] (SH L, mi, ml, MR) 98 (fun v μ' => X 129 25 [.ref 2, .int (nI i), .int (nI r), xmk, xmk] (v.toList ++ []) μ' 99 Q) := fun L mi ml Q h => by
    rw [s129, c15_in hP h.2.2.1.1 hi, ret1, s129_8 (hS L), c82 (shRows L) (by omega) hr, ret1, s129_22 (strip_row hr)]
  have M1 : ∀ L mi ml Q, Mst R T P D K S mi ml → Xm 221 [.ref 68, .int (nI i), .int (nI r)] (SH L, mi, ml, MR) 99 Q = X 221 22 [.ref 68, .int (nI i), .int (nI r), xmk, xmk, xmk, xmk, xmk] [.int (nI (pw (R r)))] (SH L, mi, ml, MR) 99 Q := fun L mi ml Q h => by
    rw [s221, c172, ret1, h.2.2.1.1, bI_t (isP_in hi hP), s221_5, if_neg i1_ne0, c155, ret1, bI_t (in_ok (n := 5) (by omega) (by omega)), s221_12, if_neg i1_ne0, c215 (d := 96) hr h.1, ret1]
  by_cases hp : pw (R r) = 0
  · obtain ⟨xs, hR, hev, hg⟩ := pw_0 hp
    by_cases hany : ∃ u, u < 60 ∧ fitB xs (u / 10) (u % 10) = true
    · have hpos : ∀ k, 0 < gM xs k := fun k => cV_pos xs k 60 hany
      have hb : (bl (gM xs) 9).1 < 9 ∧ (bl (gM xs) 9).2 = gM xs (bl (gM xs) 9).1 := bl_ok (gM_le xs) 8
      refine ex_S (.int (nI (bl (gM xs) 9).1)) (sTold (nI (bl (gM xs) 9).2) S) ⟨_, rfl⟩ hok (fun L mi ml Q h k => ?_) (fun L mi ml Q h k => ?_)
      · obtain ⟨hst, hln⟩ := h.1 r hr
        rw [hR] at hst
        have hcl : clR (lsW (clW mi xs 6) 64 xs 9) xs := fun j hj => by rw [lsW_ne (by omega), clW_63 hj]
        have h1 : ∀ a j, a < 35 ∨ (38 ≤ a ∧ a < 48) ∨ 65 ≤ a → arW (lsW (clW mi xs 6) 64 xs 9) 64 (cV xs (bl (gM xs) 9).1 60) 10 a j = mi a j := fun a j ha => by
          rw [arW_ne (by omega), lsW_ne (by omega), clW_ne (by omega)]
        have hC := Cst_scr (ml' := ml) hP h h1 (fun _ _ _ => rfl)
        have h2 := Cst_told (v := nI (bl (gM xs) 9).2) hP hC.1
        rw [C1 L mi ml Q h, c147_ok (d := 95) (strip_row hr) (by omega) hst (by omega) (hln xs hR) hev hg, ret1, s129_25, if_pos rfl, c13_pos (d := 95) clW_R hpos, ret1, s129_39, if_neg (fun z => nI_nneg (k := (bl (gM xs) 9).1) (by omega) (by rw [z]; decide)), c12 (d := 96) hcl (by omega), ret1, s129_58]
        have e : mxN (cV xs (bl (gM xs) 9).1 60) 10 = (bl (gM xs) 9).2 := hb.2.symm
        rw [e]
        exact k _ _ h2.1 (sameM_tr hC.2 h2.2)
      · have hM := Mst_scr (mi' := lsW mi 86 xs 9) h (fun j _ => lsW_ne (by omega) 9) (fun a j _ _ => lsW_ne (by omega) 9)
        have h2 := Mst_told (v := nI (bl (gM xs) 9).2) hM.1
        rw [M1 L mi ml Q h, hp, s221_22, if_pos (by decide), c221_pos (d := 96) hr h.1 hR hev hg hpos]
        exact k _ _ h2.1 (sameC_tr hM.2 h2.2)
    · have hz : ∀ k, gM xs k = 0 := fun k => by
        show mxN (cV xs k 60) 10 = 0
        rw [cV_zero xs k 60 (fun u hu hf => hany ⟨u, hu, hf⟩)]
        exact mx_zero 10
      refine ex_ret (.int (-9)) ⟨_, rfl⟩ hok (fun L mi ml Q h k => ?_) (fun L mi ml Q h k => ?_)
      · obtain ⟨hst, hln⟩ := h.1 r hr
        rw [hR] at hst
        have h1 : ∀ a j, a < 35 ∨ (38 ≤ a ∧ a < 48) ∨ 65 ≤ a → lsW (clW mi xs 6) 64 xs 9 a j = mi a j := fun a j ha => by
          rw [lsW_ne (by omega), clW_ne (by omega)]
        have hC := Cst_scr (ml' := ml) hP h h1 (fun _ _ _ => rfl)
        rw [C1 L mi ml Q h, c147_ok (d := 95) (strip_row hr) (by omega) hst (by omega) (hln xs hR) hev hg, ret1, s129_25, if_pos rfl, c13_zero (d := 95) clW_R hz, ret1, s129_39, if_pos rfl]
        exact k _ _ hC.1 hC.2
      · have hM := Mst_scr (mi' := arW mi 86 (cV xs 0 60) 10) h (fun j _ => arW_ne (by omega)) (fun a j _ _ => arW_ne (by omega))
        have hz0 : mxN (cV xs 0 60) 10 = 0 := hz 0
        rw [M1 L mi ml Q h, hp, s221_22, if_pos (by decide), s221_44, if_pos (by decide)]
        refine Eq.mpr (c219 (d := 96) (pod := 0) hr h.1 hR hev hg (by omega)) ?_
        rw [hz0, ret1, s221_58, if_pos (by decide)]
        exact k _ _ hM.1 hM.2
  · refine ex_S (.int (-3)) (sFound (pw (R r)) S) ⟨_, rfl⟩ hok (fun L mi ml Q h k => ?_) (fun L mi ml Q h k => ?_)
    · obtain ⟨hst, hln⟩ := h.1 r hr
      rw [C1 L mi ml Q h, c147 (d := 95) (strip_row hr) hst (by omega) hln hp, ret1, s129_25, if_neg (by decide)]
      exact k _ _ (Cst_found hP h).1 (Cst_found hP h).2
    · rw [M1 L mi ml Q h, s221_22, if_neg (nI_ne0 (by omega) (by omega)), c152 hpw, ret1, s221_32]
      exact k _ _ (Mst_found h).1 (Mst_found h).2
