/-! count -/
section CNT
variable {R T : pR} {P : pP} {D : List Nat} {K : Nat → Option (List Nat)} {L : Nat} {mi : Nat → Nat → Int32} {ml : Nat → Nat → Int64} {d : Nat} {Q : Option Value → xM → Prop} {f c : Nat}
theorem szI_neg {x : Option (List Int32)} (hx : ∀ xs, x = some xs → xs.length ≤ 60) : szI x < 0 ↔ x = none := by
  cases x with
  | none => exact ⟨fun _ => rfl, fun _ => by decide⟩
  | some xs =>
    have := hx xs rfl
    exact ⟨fun z => absurd z (nI_nneg (by omega)), fun z => by cases z⟩
theorem p47 (hf : f < 11) (h : mR R mi) : X 233 47 [.ref 68, .int (nI f), .int (nI c), .int (nI 0)] [] (SH L, mi, ml, MR) d Q = X 233 84 [.ref 68, .int (nI f), .int (nI (c + if f = 8 then sN (isN R) 6 else 0)), .int (nI 0)] [] (SH L, mi, ml, MR) d Q := by
  by_cases h7 : f = 8
  · subst h7
    have hl := X_loop (mid := 233) (pc := 47) (d := d) (Q := Q) (fun k => [.ref 68, .int (nI 8), .int (nI (c + sN (isN R) k)), .int (nI k)]) (fun k => (SH L, mi, ml, MR)) 6 (fun k hk => by
      rw [s233_47 (fun _ _ => xin_nI (by omega) (by omega)), if_pos (show nI k < 6 from nI_lt (b := 6) hk (by omega)), if_pos (by decide), nI_clamp (by omega), (h k hk).1, nI_1, nI_1, nI_a0]
      show _ = X 233 47 [.ref 68, _, .int (nI (c + (sN (isN R) k + isN R k))), _] _ _ _ _
      have hz := szI_neg (x := R k) (fun xs hx => by have := ((h k hk).2 xs hx).1; omega)
      cases hZ : R k with
      | none => rw [if_pos (by decide)]; simp only [isN, hZ]; rfl
      | some xs => rw [hZ] at hz; rw [if_neg (fun z => by cases hz.mp z)]; simp only [isN, hZ]; rfl)
    refine hl.trans ?_
    rw [s233_47 (fun z => absurd z (by decide)), if_neg (by decide), if_pos rfl]
    rfl
  · have hne : ¬ nI f = 8 := fun z => h7 (nI_inj (b := 8) (by omega) (by omega) z)
    rw [s233_47 (fun _ z => absurd z hne), if_neg hne, if_neg h7, ite_self]
    rfl
theorem p84 (hf : f < 11) (h : mT T mi) : X 233 84 [.ref 68, .int (nI f), .int (nI c), .int (nI 0)] [] (SH L, mi, ml, MR) d Q = X 233 120 [.ref 68, .int (nI f), .int (nI (c + if f = 9 then sN (isN T) 4 else 0)), .int (nI 0)] [] (SH L, mi, ml, MR) d Q := by
  by_cases h7 : f = 9
  · subst h7
    have hl := X_loop (mid := 233) (pc := 84) (d := d) (Q := Q) (fun k => [.ref 68, .int (nI 9), .int (nI (c + sN (isN T) k)), .int (nI k)]) (fun k => (SH L, mi, ml, MR)) 4 (fun k hk => by
      rw [s233_84 (fun _ _ => xin_nI (by omega) (by omega)), if_pos (show nI k < 4 from nI_lt (b := 4) hk (by omega)), if_pos (by decide), nI_clamp (by omega), (h k hk).1, nI_1, nI_1, nI_a0]
      show _ = X 233 84 [.ref 68, _, .int (nI (c + (sN (isN T) k + isN T k))), _] _ _ _ _
      have hz := szI_neg (x := T k) (fun xs hx => ((h k hk).2 xs hx).1)
      cases hZ : T k with
      | none => rw [if_pos (by decide)]; simp only [isN, hZ]; rfl
      | some xs => rw [hZ] at hz; rw [if_neg (fun z => by cases hz.mp z)]; simp only [isN, hZ]; rfl)
    refine hl.trans ?_
    rw [s233_84 (fun z => absurd z (by decide)), if_neg (by decide), if_pos rfl]
    rfl
  · have hne : ¬ nI f = 9 := fun z => h7 (nI_inj (b := 9) (by omega) (by omega) z)
    rw [s233_84 (fun _ z => absurd z hne), if_neg hne, if_neg h7, ite_self]
    rfl
theorem p120 (h : mK P K mi) : X 233 120 [.ref 68, .int (nI 10), .int (nI c), .int (nI 0)] [] (SH L, mi, ml, MR) (d + 1) Q = Q (some (.int (nI (c + sN (isN K) 3)))) (SH L, mi, ml, MR) := by
  have hl := X_loop (mid := 233) (pc := 120) (d := d + 1) (Q := Q) (fun k => [.ref 68, .int (nI 10), .int (nI (c + sN (isN K) k)), .int (nI k)]) (fun k => (SH L, mi, ml, MR)) 3 (fun k hk => by
    rw [s233_120 (fun _ _ => xin_nI (by omega) (by omega)), if_pos (show nI k < 3 from nI_lt (b := 3) hk (by omega)), if_pos (by decide), nI_clamp (by omega), (h k hk).1, nI_1, nI_1, nI_a0]
    show _ = X 233 120 [.ref 68, _, .int (nI (c + (sN (isN K) k + isN K k))), _] _ _ _ _
    cases hZ : K k with
    | none => rw [if_pos (show bI ((none : Option (List Nat)).isSome = true) = 0 from rfl)]; simp only [isN, hZ]; rfl
    | some xs => rw [if_neg (show ¬ bI ((some xs).isSome = true) = 0 by rw [bI_t (show (some xs).isSome = true from rfl)]; decide)]; simp only [isN, hZ]; rfl)
  refine hl.trans ?_
  rw [s233_120 (fun z => absurd z (by decide)), if_neg (by decide)]
  rfl
end CNT
