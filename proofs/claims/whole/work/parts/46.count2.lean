/-! count: the shelves -/
def isN {α : Type} (X : Nat → Option α) : Nat → Nat := fun k => if (X k).isSome = true then 1 else 0
theorem nI_a0 (n : Nat) : nI n + 0 = nI (n + 0) := nI_add n 0
section SHELVES
variable {P : pP} {D : List Nat} {L : Nat} {mi : Nat → Nat → Int32} {ml : Nat → Nat → Int64} {d : Nat} {Q : Option Value → xM → Prop} {a n cap : Nat}
theorem c83 (h : okShelf L a n cap) (hn0 : 0 < n) (hn : n < 1000) (hcap : cap < 1000) (Z : Nat → Option (List Int32)) (hst : ∀ k, k < n → stR mi (a + 2 + 2 * k) (Z k) ∧ ∀ xs, Z k = some xs → xs.length ≤ cap) : Xm 83 [.ref a] (SH L, mi, ml, MR) (d + 1) Q = Q (some (.int (nI (sN (isN Z) n)))) (SH L, mi, ml, MR) := by
  rw [s83 h.1]
  have hl := X_loop (mid := 83) (pc := 4) (d := d + 1) (Q := Q) (fun k => [.ref a, .int (nI (sN (isN Z) k)), .int (nI k), if k = 0 then xmk else .ref (a + 2 + 2 * (k - 1))]) (fun k => (SH L, mi, ml, MR)) n (fun k hk => by
    have hS := (h.2 k hk).2
    have fin : X 83 29 [.ref a, .int (nI (sN (isN Z) k)), .int (nI k), .ref (a + 2 + 2 * k)] [.int (bI (Z k = none)), .int (nI (sN (isN Z) k))] (SH L, mi, ml, MR) (d + 1) Q = X 83 4 [.ref a, .int (nI (sN (isN Z) (k + 1))), .int (nI (k + 1)), .ref (a + 2 + 2 * k)] [] (SH L, mi, ml, MR) (d + 1) Q := by
      rw [s83_29 h.1 hS, nI_1, nI_1, nI_a0]
      show _ = X 83 4 [.ref a, .int (nI (sN (isN Z) k + isN Z k)), _, _] _ _ _ _
      cases hZ : Z k with
      | none => rw [bI_t rfl, if_neg i1_ne0]; simp only [isN, hZ]; rfl
      | some xs => rw [bI_f (by simp), if_pos rfl]; simp only [isN, hZ]; rfl
    simp only [if_neg (Nat.succ_ne_zero k), Nat.add_sub_cancel]
    by_cases h0 : k = 0
    · rw [if_pos h0, s83_4 h.1 hS (fun _ => xin_nI hk (by omega)) (fun _ => by rw [nI_clamp (by omega)]; exact (h.2 k hk).1), ofNat_nI, if_pos (nI_lt hk (by omega)), c87 hS (hst k hk).1 hcap (hst k hk).2, ret1]
      exact fin
    · rw [if_neg h0, s83_4v2 h.1 (h.2 (k - 1) (by omega)).2 hS (fun _ => xin_nI hk (by omega)) (fun _ => by rw [nI_clamp (by omega)]; exact (h.2 k hk).1), ofNat_nI, if_pos (nI_lt hk (by omega)), c87 hS (hst k hk).1 hcap (hst k hk).2, ret1]
      exact fin)
  simp only [if_true] at hl
  refine hl.trans ?_
  rw [if_neg (by omega), s83_4v2 (rb18 := a + 2 + 2 * 0) h.1 (h.2 (n - 1) (by omega)).2 (h.2 0 hn0).2 (fun z => absurd z (by rw [ofNat_nI]; exact nI_nlt (by omega) (by omega))) (fun z => absurd z (by rw [ofNat_nI]; exact nI_nlt (by omega) (by omega))), ofNat_nI, if_neg (nI_nlt (by omega) (by omega))]
/-! the model's four loops -/
theorem p4 {f : Nat} (hf : f < 11) (hP : okP P) (h4 : mi 68 4 = nI P.length) (hm : ∀ i, i < P.length → mpR mi i (pl P i)) : X 233 4 [.ref 68, .int (nI f), .int (nI 0), .int (nI 0)] [] (SH L, mi, ml, MR) (d + 1) Q = X 233 47 [.ref 68, .int (nI f), .int (nI (if f = 7 then sN (fun i => if ofN (pl P i).1 1 then 1 else 0) P.length else 0)), .int (nI 0)] [] (SH L, mi, ml, MR) (d + 1) Q := by
  have hP6 := hP.1
  by_cases h7 : f = 7
  · subst h7
    have hl := X_loop (mid := 233) (pc := 4) (d := d + 1) (Q := Q) (fun k => [.ref 68, .int (nI 7), .int (nI (sN (fun i => if ofN (pl P i).1 1 then 1 else 0) k)), .int (nI k)]) (fun k => (SH L, mi, ml, MR)) P.length (fun k hk => by
      rw [s233_4 (fun _ _ => xin_nI (by omega) (by omega)), h4, if_pos (nI_lt hk (by omega)), if_pos (by decide), nI_clamp (by omega), (hm k hk).1, c175_1 (hP.2 k hk).1, ret1, s233_29, nI_1, nI_1, nI_a0]
      show _ = X 233 4 [.ref 68, _, .int (nI (sN (fun i => if ofN (pl P i).1 1 then 1 else 0) k + (if ofN (pl P k).1 1 then 1 else 0))), _] _ _ _ _
      by_cases ho : ofN (pl P k).1 1
      · rw [bI_t ho, if_neg i1_ne0, if_pos ho]
      · rw [bI_f ho, if_pos rfl, if_neg ho])
    refine hl.trans ?_
    rw [s233_4 (fun z => absurd z (by rw [h4]; exact nI_nlt (by omega) (by omega))), h4, if_neg (nI_nlt (by omega) (by omega)), if_pos rfl]
    rfl
  · have hne : ¬ nI f = 7 := fun z => h7 (nI_inj (b := 7) (by omega) (by omega) z)
    rw [s233_4 (fun _ z => absurd z hne), if_neg hne, if_neg h7, ite_self]
    rfl
end SHELVES
