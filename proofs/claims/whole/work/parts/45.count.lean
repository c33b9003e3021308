/-! count: its parts -/
def sN (f : Nat → Nat) : Nat → Nat
  | 0 => 0
  | n + 1 => sN f n + f n
theorem sN_ext {f : Nat → Nat} {n : Nat} : ∀ m, (∀ j, n ≤ j → f j = 0) → sN f (n + m) = sN f n := by
  intro m h
  induction m with
  | zero => rfl
  | succ m ih =>
    show sN f (n + m) + f (n + m) = _
    rw [ih, h _ (by omega), Nat.add_zero]
theorem rep_out {P : pP} {D : List Nat} (hD : okD P D) {i : Nat} (hi : P.length ≤ i) : ∀ k, k ≤ D.length → gW (rep P (D.take k)) i = 0 ∧ gP (rep P (D.take k)) i = 0 := by
  intro k
  induction k with
  | zero => intro _; exact ⟨rfl, rfl⟩
  | succ k ih =>
    intro hk
    have ha := hD.2 k (by omega)
    have h0 := ih (by omega)
    rw [take_add (by omega), rep_add]
    generalize D.getD k 0 = c at ha ⊢
    obtain ⟨a1, a2, _⟩ := ha
    have hne : i ≠ c % 10 := by omega
    unfold dstep
    repeat' split
    · exact h0
    · refine ⟨?_, h0.2⟩
      show up _ _ _ _ = 0
      unfold up
      rw [if_neg hne]
      exact h0.1
    · refine ⟨h0.1, ?_⟩
      show up _ _ _ _ = 0
      unfold up
      rw [if_neg hne]
      exact h0.2
    · exact h0
theorem rep_out' {P : pP} {D : List Nat} (hD : okD P D) {i : Nat} (hi : P.length ≤ i) : gW (rep P D) i = 0 ∧ gP (rep P D) i = 0 := by
  have h := rep_out hD hi D.length (Nat.le_refl _)
  rw [List.take_length] at h
  exact h
section COUNT
variable {P : pP} {D : List Nat} {L : Nat} {mi : Nat → Nat → Int32} {ml : Nat → Nat → Int64} {d : Nat} {Q : Option Value → xM → Prop}
/-- a sum over the plants: 4 wet, 5 picked -/
theorem c31 {f : Nat} (hf : f < 8) (hok : okP P) (hD : okD P D) (h : cG P D mi) (F : Nat → Nat) (hF : ∀ i, i < P.length → featN (pl P i) (gW (rep P D) i) (gP (rep P D) i) (gE (rep P D) i) (gD (rep P D)) f = nI (F i)) : Xm 31 [.ref 38, .int (nI f)] (SH L, mi, ml, MR) (d + 4) Q = Q (some (.int (nI (sN F P.length)))) (SH L, mi, ml, MR) := by
  have hP := hok.1
  have hD1 := hD.1
  have hb := rep_le P D
  rw [s31]
  have hl := X_loop (mid := 31) (pc := 4) (d := d + 4) (Q := Q) (fun k => [.ref 38, .int (nI f), .int (nI (sN F k)), .int (nI k), if k = 0 then xmk else .ref (42 + (k - 1))]) (fun k => (SH L, mi, ml, MR)) P.length (fun k hk => by
    have hS := (shPlant L (i := k) (by omega)).1
    have hbi := hb.2 k
    simp only [if_neg (Nat.succ_ne_zero k), Nat.add_sub_cancel]
    by_cases h0 : k = 0
    · rw [if_pos h0, s31_4, h.1, if_pos (nI_lt hk (by omega)), c15_in hP h.1 hk, ret1, s31_17 hS, h.2.1, c60 hf hS (cG_pl h hk) (hok.2 k hk) (by omega) (by omega), hF k hk, ret1, s31_39 hS, nI_add, nI_1]
      rfl
    · rw [if_neg h0, s31_4v3 (shPlant L (i := k - 1) (by omega)).1, h.1, if_pos (nI_lt hk (by omega)), c15_in hP h.1 hk, ret1, s31_17v3 (shPlant L (i := k - 1) (by omega)).1 hS, h.2.1, c60 hf hS (cG_pl h hk) (hok.2 k hk) (by omega) (by omega), hF k hk, ret1, s31_39 hS, nI_add, nI_1]
      rfl)
  simp only [if_true] at hl
  refine hl.trans ?_
  by_cases h0 : P.length = 0
  · rw [if_pos h0, s31_4, h.1, if_neg (nI_nlt (by omega) (by omega))]
  · rw [if_neg h0, s31_4v3 (shPlant L (i := P.length - 1) (by omega)).1, h.1, if_neg (nI_nlt (by omega) (by omega))]
/-- a sum over six places of now -/
theorem c232 {a : Nat} (ha : a ≤ 6) (F : Nat → Nat) (hF : ∀ j, j < 6 → mi 77 (a + j) = nI (F j)) : Xm 232 [.ref 68, .int (nI a)] (SH L, mi, ml, MR) d Q = Q (some (.int (nI (sN F 6)))) (SH L, mi, ml, MR) := by
  rw [s232]
  have hl := X_loop (mid := 232) (pc := 4) (d := d) (Q := Q) (fun k => [.ref 68, .int (nI a), .int (nI (sN F k)), .int (nI k)]) (fun k => (SH L, mi, ml, MR)) 6 (fun k hk => by
    rw [s232_4 (fun _ => by rw [nI_add]; exact xin_nI (by omega) (by omega)), if_pos (show nI k < 6 from nI_lt (b := 6) hk (by omega)), nI_add, nI_clamp (by omega), hF k hk, nI_add, nI_1]
    rfl)
  refine hl.trans ?_
  rw [s232_4 (fun z => absurd z (by decide)), if_neg (by decide)]
/-- how many runners -/
theorem c32 (hok : okP P) (h : cG P D mi) : Xm 32 [.ref 38] (SH L, mi, ml, MR) (d + 2) Q = Q (some (.int (nI (sN (fun i => if ofN (pl P i).1 1 then 1 else 0) P.length)))) (SH L, mi, ml, MR) := by
  have hP := hok.1
  rw [s32]
  have hl := X_loop (mid := 32) (pc := 4) (d := d + 2) (Q := Q) (fun k => [.ref 38, .int (nI (sN (fun i => if ofN (pl P i).1 1 then 1 else 0) k)), .int (nI k), if k = 0 then xmk else .ref (42 + (k - 1))]) (fun k => (SH L, mi, ml, MR)) P.length (fun k hk => by
    have hS := (shPlant L (i := k) (by omega)).1
    have hkd := (hok.2 k hk).1
    have fin : X 32 31 [.ref 38, .int (nI (sN (fun i => if ofN (pl P i).1 1 then 1 else 0) k)), .int (nI k), .ref (42 + k)] [.int (bI (ofN (pl P k).1 1)), .int (nI (sN (fun i => if ofN (pl P i).1 1 then 1 else 0) k))] (SH L, mi, ml, MR) (d + 2) Q = X 32 4 [.ref 38, .int (nI (sN (fun i => if ofN (pl P i).1 1 then 1 else 0) (k + 1))), .int (nI (k + 1)), .ref (42 + k)] [] (SH L, mi, ml, MR) (d + 2) Q := by
      rw [s32_31 hS, nI_1]
      show _ = X 32 4 [.ref 38, .int (nI (sN (fun i => if ofN (pl P i).1 1 then 1 else 0) k + (if ofN (pl P k).1 1 then 1 else 0))), _, _] _ _ _ _
      by_cases ho : ofN (pl P k).1 1
      · rw [bI_t ho, if_neg i1_ne0, if_pos ho, nI_1]
      · rw [bI_f ho, if_pos rfl, if_neg ho]
        have e0 : ∀ n, nI n + 0 = nI (n + 0) := fun n => nI_add n 0
        rw [e0]
    simp only [if_neg (Nat.succ_ne_zero k), Nat.add_sub_cancel]
    by_cases h0 : k = 0
    · rw [if_pos h0, s32_4, h.1, if_pos (nI_lt hk (by omega)), c15_in hP h.1 hk, ret1, s32_17 hS, (cG_pl h hk).1, c45_1 hkd, ret1]
      exact fin
    · rw [if_neg h0, s32_4v3 (shPlant L (i := k - 1) (by omega)).1, h.1, if_pos (nI_lt hk (by omega)), c15_in hP h.1 hk, ret1, s32_17v3 (shPlant L (i := k - 1) (by omega)).1 hS, (cG_pl h hk).1, c45_1 hkd, ret1]
      exact fin)
  simp only [if_true] at hl
  refine hl.trans ?_
  by_cases h0 : P.length = 0
  · rw [if_pos h0, s32_4, h.1, if_neg (nI_nlt (by omega) (by omega))]
  · rw [if_neg h0, s32_4v3 (shPlant L (i := P.length - 1) (by omega)).1, h.1, if_neg (nI_nlt (by omega) (by omega))]
end COUNT
