/-! the two constructors: run once, by the kernel, without the script; then beside it -/
def xz0 : xM := ([(200, 0), (105, 6)], (fun a j => if a = 0 then 0 else if a = 1 then xlet.getD j 0 else 0), (fun _ _ => 0), (fun _ _ => none))
def xr1 : Option (Option Value × xM) := xrun 2000 60 98 0 (xent 98 [.ref 2]) [] (xmake (9, 12) xz0)
def xm1 : xM := (xr1.getD (none, xz0)).2
def xr2 : Option (Option Value × xM) := xrun 2000 60 148 0 (xent 148 [.ref 68]) [] (xmake (10, 33) xm1)
def xm2 : xM := (xr2.getD (none, xz0)).2
theorem xr1_v : xr1.map (fun q => q.1) = some none := by decide +kernel
theorem xr2_v : xr2.map (fun q => q.1) = some none := by decide +kernel
theorem xm1_len : xm1.1.length = 68 := by decide +kernel
def SHt : List (Nat × Nat) := [(105, 6), (9, 12), (7, 1), (103, 6), (8, 2), (100, 40), (8, 2), (100, 40), (8, 2), (100, 40), (8, 2), (100, 40), (8, 2), (100, 40), (8, 2), (100, 40), (7, 1), (103, 4), (8, 2), (100, 60), (8, 2), (100, 60), (8, 2), (100, 60), (8, 2), (100, 60), (7, 1), (103, 3), (8, 2), (100, 40), (8, 2), (100, 40), (8, 2), (100, 40), (5, 1), (8, 2), (100, 24), (2, 5), (104, 6), (8, 2), (100, 40), (4, 7), (4, 7), (4, 7), (4, 7), (4, 7), (4, 7), (3, 3), (100, 6), (100, 6), (6, 12), (8, 2), (100, 5), (8, 2), (100, 5), (8, 2), (100, 5), (8, 2), (100, 30), (8, 2), (100, 6), (1, 2), (100, 6), (100, 10), (0, 3), (101, 7), (100, 6), (10, 33), (100, 6), (100, 240), (100, 4), (100, 240), (100, 6), (100, 6), (100, 6), (100, 6), (100, 15), (100, 600), (100, 1848), (102, 3), (100, 6), (100, 24), (100, 5), (100, 5), (100, 6), (100, 10), (100, 42), (100, 6), (100, 6)]
theorem xm2_sh : xm2.1 = (200, 0) :: SHt := by decide +kernel
def SH (L : Nat) : List (Nat × Nat) := (105, L) :: SHt
theorem MR_ex : ∃ f : Nat → Nat → Option Nat, f = xm2.2.2.2 := ⟨_, rfl⟩
noncomputable def MR : Nat → Nat → Option Nat := Classical.choose MR_ex
theorem MR_eq : MR = xm2.2.2.2 := Classical.choose_spec MR_ex
def MRl : List (Nat × Nat × Nat) := [(2, 0, 3), (2, 1, 17), (2, 2, 27), (2, 3, 35), (2, 4, 38), (2, 5, 48), (2, 6, 51), (2, 7, 62), (2, 8, 65), (2, 9, 67), (3, 0, 4), (4, 0, 5), (4, 1, 7), (4, 2, 9), (4, 3, 11), (4, 4, 13), (4, 5, 15), (5, 0, 6), (7, 0, 8), (9, 0, 10), (11, 0, 12), (13, 0, 14), (15, 0, 16), (17, 0, 18), (18, 0, 19), (18, 1, 21), (18, 2, 23), (18, 3, 25), (19, 0, 20), (21, 0, 22), (23, 0, 24), (25, 0, 26), (27, 0, 28), (28, 0, 29), (28, 1, 31), (28, 2, 33), (29, 0, 30), (31, 0, 32), (33, 0, 34), (35, 0, 36), (36, 0, 37), (38, 0, 39), (38, 1, 40), (39, 0, 42), (39, 1, 43), (39, 2, 44), (39, 3, 45), (39, 4, 46), (39, 5, 47), (40, 0, 41), (48, 0, 38), (48, 1, 49), (48, 2, 50), (51, 0, 38), (51, 1, 48), (51, 2, 52), (51, 3, 54), (51, 4, 56), (51, 5, 58), (51, 6, 60), (52, 0, 53), (54, 0, 55), (56, 0, 57), (58, 0, 59), (60, 0, 61), (62, 0, 63), (62, 1, 64), (65, 0, 66), (68, 0, 69), (68, 1, 70), (68, 2, 71), (68, 3, 72), (68, 5, 73), (68, 6, 74), (68, 7, 75), (68, 8, 76), (68, 9, 77), (68, 11, 78), (68, 12, 79), (68, 13, 80), (68, 18, 81), (68, 21, 82), (68, 22, 83), (68, 23, 84), (68, 24, 85), (68, 29, 86), (68, 30, 87), (68, 31, 88), (68, 32, 89)]
theorem MR_ok : (MRl.all fun q => decide (xm2.2.2.2 q.1 q.2.1 = some q.2.2)) = true := by decide +kernel
def MIl : List (Nat × Nat × Int32) := [(5, 1, -1), (7, 1, -1), (9, 1, -1), (11, 1, -1), (13, 1, -1), (15, 1, -1), (19, 1, -1), (21, 1, -1), (23, 1, -1), (25, 1, -1), (29, 1, -1), (31, 1, -1), (33, 1, -1), (36, 1, -1), (40, 1, 0), (52, 1, -1), (54, 1, -1), (56, 1, -1), (58, 1, -1), (60, 1, -1), (2, 10, 0), (2, 11, 0), (38, 2, 0), (38, 3, 0), (38, 4, 10), (67, 0, 0), (67, 1, 0), (67, 2, 0), (67, 3, 0), (67, 4, 0), (67, 5, 0), (51, 7, -9), (51, 8, 0), (51, 9, 0), (51, 10, 0), (51, 11, -9), (69, 0, -1), (69, 1, -1), (69, 2, -1), (69, 3, -1), (69, 4, -1), (69, 5, -1), (71, 0, -1), (71, 1, -1), (71, 2, -1), (71, 3, -1), (77, 0, 0), (77, 1, 0), (77, 2, 0), (77, 3, 0), (77, 4, 0), (77, 5, 0), (77, 6, 0), (77, 7, 0), (77, 8, 0), (77, 9, 0), (77, 10, 0), (77, 11, 0), (77, 12, 0), (77, 13, 0), (77, 14, 10), (80, 0, 0), (80, 1, 0), (80, 2, 0), (81, 0, 0), (81, 1, 0), (81, 2, 0), (81, 3, 0), (81, 4, 0), (81, 5, 0), (68, 4, 0), (68, 10, 0), (68, 14, 0), (68, 17, 0), (68, 19, 0), (68, 20, 0), (68, 25, 0), (68, 26, 0), (68, 27, 0), (68, 28, 0)]
theorem MI_ok : (MIl.all fun q => decide (xm2.2.1 q.1 q.2.1 = q.2.2)) = true := by decide +kernel
theorem ML_ok : xm2.2.2.1 65 1 = 0 ∧ xm2.2.2.1 65 2 = 1 ∧ xm2.2.2.1 68 15 = 0 ∧ xm2.2.2.1 68 16 = 1 := by decide +kernel
theorem xr1_eq : xr1 = some (none, xm1) := by
  have h := xr1_v
  unfold xm1
  cases hx : xr1 with
  | none => rw [hx] at h; cases h
  | some q => rw [hx] at h; obtain ⟨q1, q2⟩ := q; cases h; rfl
theorem xr2_eq : xr2 = some (none, xm2) := by
  have h := xr2_v
  unfold xm2
  cases hx : xr2 with
  | none => rw [hx] at h; cases h
  | some q => rw [hx] at h; obtain ⟨q1, q2⟩ := q; cases h; rfl
theorem xag_base (L : Nat) (xs : Nat → Int32) : xag xz0 (xμ0 L xs) := by
  refine ⟨rfl, fun a ha => ?_, rfl, fun a j ha => ?_, rfl, rfl⟩
  · match a, ha with
    | 0, ha => exact absurd rfl ha
    | 1, _ => rfl
    | a + 2, _ => rfl
  · simp only [xμ0, xz0, if_neg ha]
set_option maxRecDepth 10000 in
theorem SH_ref {k r j : Nat} (h : (k, j, r) ∈ MRl) : MR k j = some r := by
  rw [MR_eq]
  exact of_decide_eq_true (List.all_eq_true.mp MR_ok _ h)
/-- more depth does no harm -/
theorem xrun_d : ∀ (n k d mid pc : Nat) (loc st : List Value) (μ : xM) {r : Option Value × xM}, xrun n d mid pc loc st μ = some r → xrun n (d + k) mid pc loc st μ = some r := by
  intro n
  induction n with
  | zero => intro k d mid pc loc st μ r h; simp [xrun] at h
  | succ n ih =>
    intro k d mid pc loc st μ r h
    simp only [xrun] at h ⊢
    cases e : xstep mid pc loc st μ with
    | none => rw [e] at h; cases h
    | some q =>
      rw [e] at h
      rcases q with ⟨pc', loc', st', μ'⟩ | v | ⟨f, as, rest⟩
      · exact ih k _ _ _ _ _ _ h
      · exact h
      · cases d with
        | zero => cases h
        | succ d' =>
          rw [show d' + 1 + k = (d' + k) + 1 by omega]
          simp only at h ⊢
          cases h1 : xrun n d' f 0 (xent f as) [] μ with
          | none => rw [h1] at h; cases h
          | some q =>
            rw [h1] at h
            rw [ih k _ _ _ _ _ _ h1]
            have h2 := ih k _ _ _ _ _ _ h
            rw [show d' + 1 + k = (d' + k) + 1 by omega] at h2
            exact h2
/-- the law behind its two constructors -/
theorem xlaw16 {L : Nat} {xs : Nat → Int32} {Q : Option Value → xM → Prop}
    (h : ∀ (mi : Nat → Nat → Int32) (ml : Nat → Nat → Int64), (∀ j, mi 0 j = xs j) → (∀ a j, a ≠ 0 → mi a j = xm2.2.1 a j) → ml = xm2.2.2.1 → X 241 16 [.ref 0, .ref 2, .ref 68, xmk] [] (SH L, mi, ml, MR) 100 Q) : X 241 0 (xent 241 [.ref 0]) [] (xμ0 L xs) 100 Q := by
  have e0 : xent 241 [.ref 0] = [.ref 0, xmk, xmk, xmk] := by decide +kernel
  rw [e0]
  obtain ⟨ν1, r1, a1, b1⟩ := xag_run _ _ _ _ _ _ _ (xmake (9, 12) (xμ0 L xs)) _ _ (xag_make (xag_base L xs) _).1 xr1_eq
  have hl1 : ν1.1.length = 68 := by rw [a1.2.2.1]; exact xm1_len
  obtain ⟨ν2, r2, a2, b2⟩ := xag_run _ _ _ _ _ _ _ (xmake (10, 33) ν1) _ _ (xag_make a1 _).1 xr2_eq
  rw [R_new (ci := 9) (n := 12) (i := 7) (by decide +kernel) (by decide +kernel) (by decide +kernel)]
  rw [R_pure0 (ins := .dup) (len := 1) (loc' := [.ref 0, xmk, xmk, xmk]) (st' := [.ref 2, .ref 2]) (by decide +kernel) (fun _ => rfl)]
  rw [show (100 : Nat) = 99 + 1 from rfl]
  have i1 := R_init (mid := 241) (pc := 0 + 3 + 1) (loc := [.ref 0, xmk, xmk, xmk]) (μ := xmake (9, 12) (xμ0 L xs)) (d := 99) (Q := Q) (i := 9) (f := 98) (kd := 4) (b := 2) (As := []) (rest := [.ref 2]) (by decide +kernel) (by decide +kernel) (Or.inl rfl) (by decide +kernel) (by decide +kernel) (by decide +kernel)
  refine (Eq.mpr i1 ⟨2000, none, ν1, xrun_d _ 39 _ _ _ _ _ _ r1, ?_⟩)
  show X 241 7 [.ref 0, xmk, xmk, xmk] [.ref 2] ν1 (99 + 1) Q
  rw [R_pure0 (ins := .astore_n 1) (len := 1) (loc' := [.ref 0, .ref 2, xmk, xmk]) (st' := []) (by decide +kernel) (fun _ => rfl)]
  rw [R_new (ci := 10) (n := 33) (i := 10) (by decide +kernel) (by decide +kernel) (by decide +kernel), hl1]
  rw [R_pure0 (ins := .dup) (len := 1) (loc' := [.ref 0, .ref 2, xmk, xmk]) (st' := [.ref 68, .ref 68]) (by decide +kernel) (fun _ => rfl)]
  have i2 := R_init (mid := 241) (pc := 7 + 1 + 3 + 1) (loc := [.ref 0, .ref 2, xmk, xmk]) (μ := xmake (10, 33) ν1) (d := 99) (Q := Q) (i := 12) (f := 148) (kd := 4) (b := 68) (As := []) (rest := [.ref 68]) (by decide +kernel) (by decide +kernel) (Or.inl rfl) (by decide +kernel) (by decide +kernel) (by decide +kernel)
  refine (Eq.mpr i2 ⟨2000, none, ν2, xrun_d _ 39 _ _ _ _ _ _ r2, ?_⟩)
  show X 241 15 [.ref 0, .ref 2, xmk, xmk] [.ref 68] ν2 (99 + 1) Q
  rw [R_pure0 (ins := .astore_n 2) (len := 1) (loc' := [.ref 0, .ref 2, .ref 68, xmk]) (st' := []) (by decide +kernel) (fun _ => rfl)]
  have e : ν2 = (SH L, ν2.2.1, ν2.2.2.1, MR) := by
    have h1 : ν2.1 = SH L := by
      apply List.ext_getElem?
      intro i
      by_cases hi : i = 0
      · subst hi
        rw [b2.1, (xag_make a1 (10, 33)).2.1, b1.1, (xag_make (xag_base L xs) (9, 12)).2.1]
        rfl
      · rw [a2.2.1 i hi, xm2_sh]
        match i, hi with
        | 0, hi => exact absurd rfl hi
        | i + 1, _ => rfl
    have h2 : ν2.2.2.2 = MR := a2.2.2.2.2.2.trans MR_eq.symm
    rw [← h1, ← h2]
  rw [e]
  refine h _ _ (fun j => ?_) (fun a j ha => a2.2.2.2.1 a j ha) a2.2.2.2.2.1
  rw [b2.2, (xag_make a1 (10, 33)).2.2, b1.2, (xag_make (xag_base L xs) (9, 12)).2.2]
  rfl
