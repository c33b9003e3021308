/-! a saying is heard -/
abbrev goodW (x : Int32) : Prop := ¬ x < 0 ∧ x < nI 10
def allW (xs : List Int32) : Nat → Bool
  | 0 => true
  | j + 1 => allW xs j && decide (goodW (xs.getD j 0))
theorem allW_iff (xs : List Int32) : ∀ n, allW xs n = true ↔ ∀ i, i < n → goodW (xs.getD i 0) := by
  intro n
  induction n with
  | zero => exact ⟨fun _ i hi => absurd hi (Nat.not_lt_zero i), fun _ => rfl⟩
  | succ n ih =>
    unfold allW
    rw [Bool.and_eq_true, ih, decide_eq_true_iff]
    constructor
    · intro h i hi
      rcases Nat.lt_or_ge i n with hh | hh
      · exact h.1 i hh
      · rw [show i = n by omega]; exact h.2
    · intro h
      exact ⟨fun i hi => h i (by omega), h n (by omega)⟩
def sw (x : Option (List Int32)) : Nat := match x with
  | none => 1
  | some xs => if 5 < xs.length then 5 else if allW xs xs.length = true then 0 else 3
theorem sw_lt (x : Option (List Int32)) : sw x < 6 := by
  unfold sw
  split
  · omega
  · split
    · omega
    · split <;> omega
theorem sw_0 {x : Option (List Int32)} (h : sw x = 0) : ∃ xs, x = some xs ∧ xs.length ≤ 5 ∧ ∀ i, i < xs.length → goodW (xs.getD i 0) := by
  cases x with
  | none => cases h
  | some xs =>
    unfold sw at h
    simp only at h
    split at h
    · cases h
    · split at h
      · rename_i h1 h2
        exact ⟨xs, rfl, by omega, (allW_iff xs _).mp h2⟩
      · cases h
def wv (xs : List Int32) (k : Nat) : Nat := (xs.getD k 0).toNatClampNeg
theorem wv_ok {xs : List Int32} {k : Nat} (h : goodW (xs.getD k 0)) : xs.getD k 0 = nI (wv xs k) ∧ wv xs k < 10 := by
  obtain ⟨p, hp, e⟩ : ∃ q, q < 2 ^ 31 ∧ xs.getD k 0 = nI q := (i32_cases _).resolve_left h.1
  unfold wv
  have h2 := h.2
  rw [e] at h2 ⊢
  rw [nI_clamp hp]
  exact ⟨rfl, (nI_ltI hp (by omega)).mp h2⟩
theorem sh52 (L : Nat) : isStrip L 52 5 := ⟨rfl, SH_ref (by decide +kernel), rfl⟩
section SAY
variable {R T : pR} {L : Nat} {mi : Nat → Nat → Int32} {ml : Nat → Nat → Int64} {d : Nat} {Q : Option Value → xM → Prop} {r0 r n : Nat} {xs : List Int32}
theorem c146_step {j : Nat} (hS : isStrip L r0 40) (hst : stR mi r0 (some xs)) (hx : xs.length ≤ 40) (hj : j < xs.length) : X 146 48 [.ref 2, .ref r0, .int (nI j)] [] (SH L, mi, ml, MR) (d + 1) Q = if goodW (xs.getD j 0) then X 146 48 [.ref 2, .ref r0, .int (nI (j + 1))] [] (SH L, mi, ml, MR) (d + 1) Q else Q (some (.int (-3))) (SH L, xw (xw mi 2 10 (nI 3)) 67 3 (mi 67 3 + 1), ml, MR) := by
  rw [s146_48 hS, c88 hS hst, ret1, s146_53 hS, if_pos (show nI j < szI (some xs) from nI_lt hj (by omega)), c90 hS hst (by omega) hx (by omega), ret1, s146_61 hS, c143b, ret1, s146_64 hS, nI_1]
  by_cases hg : goodW (xs.getD j 0)
  · rw [bI_t hg, if_neg i1_ne0, if_pos hg]
  · rw [bI_f hg, if_pos rfl, if_neg hg, c141_3, ret1, s146_72 hS]
theorem c146 {x : Option (List Int32)} (hn : 0 < n) (hn6 : n ≤ 6) (h2 : mi 38 2 = nI n) (hS : isStrip L r0 40) (hst : stR mi r0 x) (hx : ∀ xs, x = some xs → xs.length ≤ 40) (hp : sw x ≠ 0) : Xm 146 [.ref 2, .ref r0] (SH L, mi, ml, MR) (d + 3) Q = Q (some (.int (-3))) (SH L, xw (xw mi 2 10 (nI (sw x))) 67 (sw x) (mi 67 (sw x) + 1), ml, MR) := by
  rw [s146 hS, s17, h2, if_pos ((nI_pos_iff (by omega)).mpr hn), ret1, s146_13 hS, if_pos rfl]
  cases x with
  | none => rw [c87 (x := none) hS hst (by omega) hx, ret1, s146_23 hS, bI_t rfl, if_neg i1_ne0, c141_1, ret1, s146_31 hS]; rfl
  | some xs =>
    have hx := hx xs rfl
    rw [c87 hS hst (by omega) (fun _ h => by cases h; exact hx), ret1, s146_23 hS, bI_f (by simp), if_pos rfl, c88 hS hst, ret1, s146_36 hS, show szI (some xs) = nI xs.length from rfl]
    by_cases h5 : 5 < xs.length
    · have e : sw (some xs) = 5 := by unfold sw; simp only; rw [if_pos h5]
      rw [e, if_pos (show (5 : Int32) < nI xs.length from nI_lt (a := 5) h5 (by omega)), c141_5, ret1, s146_45 hS]
    · have e : sw (some xs) = if allW xs xs.length = true then 0 else 3 := by unfold sw; simp only; rw [if_neg h5]
      have h3 : ¬ allW xs xs.length = true := fun z => hp (by rw [e, if_pos z])
      rw [e, if_neg h3, if_neg (show ¬ (5 : Int32) < nI xs.length from nI_nlt (a := 5) (by omega) (by omega))]
      rcases X_first (mid := 146) (pc := 48) (d := d + 3) (Q := Q) (fun j => [.ref 2, .ref r0, .int (nI j)]) (fun _ => (SH L, mi, ml, MR)) (fun _ => Q (some (.int (-3))) (SH L, xw (xw mi 2 10 (nI 3)) 67 3 (mi 67 3 + 1), ml, MR)) (fun j => ¬ goodW (xs.getD j 0)) xs.length (fun k hk hg => by rw [c146_step hS hst hx hk, if_pos (Classical.not_not.mp hg)]) (fun k hk hg => by rw [c146_step hS hst hx hk, if_neg hg]) with ⟨j, _, _, _, h⟩ | ⟨h, _⟩
      · exact h
      · exact absurd ((allW_iff xs _).mpr (fun i hi => Classical.not_not.mp (h i hi))) h3
theorem c146_ok (hn : 0 < n) (hn6 : n ≤ 6) (h2 : mi 38 2 = nI n) (hS : isStrip L r0 40) (h50 : r0 + 1 < 50) (hst : stR mi r0 (some xs)) (h5 : xs.length ≤ 5) (hg : ∀ i, i < xs.length → goodW (xs.getD i 0)) (k : ∀ m', stR m' 52 (some xs) → (∀ c j, c ≠ 52 → c ≠ 53 → m' c j = mi c j) → Q (some (.int 0)) (SH L, m', ml, MR)) : Xm 146 [.ref 2, .ref r0] (SH L, mi, ml, MR) (d + 4) Q := by
  rw [s146 hS, s17, h2, if_pos ((nI_pos_iff (by omega)).mpr hn), ret1, s146_13 hS, if_pos rfl, c87 hS hst (by omega) (fun _ h => by cases h; omega), ret1, s146_23 hS, bI_f (by simp), if_pos rfl, c88 hS hst, ret1, s146_36 hS, show szI (some xs) = nI xs.length from rfl, if_neg (show ¬ (5 : Int32) < nI xs.length from nI_nlt (a := 5) (by omega) (by omega))]
  have hl := X_loop (mid := 146) (pc := 48) (d := d + 4) (Q := Q) (fun j => [.ref 2, .ref r0, .int (nI j)]) (fun _ => (SH L, mi, ml, MR)) xs.length (fun j hj => by rw [c146_step hS hst (by omega) hj, if_pos (hg j hj)])
  refine Eq.mpr hl ?_
  rw [s146_48 hS, c88 hS hst, ret1, s146_53 hS, if_neg (show ¬ nI xs.length < szI (some xs) from nI_nlt (by omega) (by omega)), s74 hS]
  refine c97 (d := d) (sh52 L) hS (by omega) (by omega) ⟨by omega, by omega, by omega⟩ hst h5 (by omega) (fun m' a1 a2 => ?_)
  rw [ret0, s74_8 hS, ret0, s146_87 hS]
  exact k m' a1 (fun c j h1 h2 => a2 c j h1 h2)
/-! the model's -/
theorem c206_step {j : Nat} (hr : r < 6) (h : mR R mi) (hR : R r = some xs) (hj : j < xs.length) : X 206 43 [.ref 68, .int (nI r), .int (nI j)] [] (SH L, mi, ml, MR) (d + 1) Q = if goodW (xs.getD j 0) then X 206 43 [.ref 68, .int (nI r), .int (nI (j + 1))] [] (SH L, mi, ml, MR) (d + 1) Q else Q (some (.int (-3))) (SH L, xw (xw mi 68 17 (nI 3)) 81 3 (mi 81 3 + 1), ml, MR) := by
  obtain ⟨h1, h2⟩ := h r hr
  obtain ⟨h3, h4⟩ := h2 xs hR
  rw [hR] at h1
  have q1 : ∀ (x : Int32) (n : Nat), n < 100 → ((¬ x < 0 ∧ ¬ nI n < x) ↔ (¬ x < 0 ∧ x < nI (n + 1))) := fun x n hn => by
    rw [Int32.lt_iff_toInt_lt, Int32.lt_iff_toInt_lt, Int32.lt_iff_toInt_lt, nI_toInt (by omega), nI_toInt (by omega)]
    omega
  rw [s206_43 (xin_nI hr (by omega)) (fun _ => by rw [rowAt]; exact xin_nI (by omega) (by omega)), nI_clamp (by omega), h1, if_pos (show nI j < szI (some xs) from nI_lt hj (by omega)), rowAt, nI_clamp (by omega), h4 j hj, show (0 : Int64) = (0 : Int32).toInt64 from rfl, show (9 : Int64) = (nI 9).toInt64 from rfl, c149, ret1, s206_72, nI_1]
  by_cases hg : goodW (xs.getD j 0)
  · rw [bI_t ((q1 _ 9 (by omega)).mpr hg), if_neg i1_ne0, if_pos hg]
  · rw [bI_f (fun z => hg ((q1 _ 9 (by omega)).mp z)), if_pos rfl, if_neg hg, c152_3, ret1, s206_80]
theorem c206 (hn : 0 < n) (hn6 : n ≤ 6) (h4 : mi 68 4 = nI n) (hr : r < 6) (h : mR R mi) : Xm 206 [.ref 68, .int (nI r)] (SH L, mi, ml, MR) (d + 1) Q = if sw (R r) = 0 then Q (some (.int 0)) (SH L, mi, ml, MR) else Q (some (.int (-3))) (SH L, xw (xw mi 68 17 (nI (sw (R r)))) 81 (sw (R r)) (mi 81 (sw (R r)) + 1), ml, MR) := by
  have hx : xin (nI r) 6 = true := xin_nI hr (by omega)
  obtain ⟨h1, h2⟩ := h r hr
  rw [s206 (fun _ => hx) (fun _ _ => hx), h4, if_neg (nI_ne0 hn (by omega)), nI_clamp (by omega), h1]
  cases hR : R r with
  | none => rw [if_pos (by decide), c152_1, ret1, s206_24, if_neg (show ¬ sw none = 0 by decide)]; rfl
  | some xs =>
    obtain ⟨h3, _⟩ := h2 xs hR
    rw [if_neg (show ¬ szI (some xs) < 0 from nI_nneg (by omega)), show szI (some xs) = nI xs.length from rfl]
    by_cases h5 : 5 < xs.length
    · have e : sw (some xs) = 5 := by unfold sw; simp only; rw [if_pos h5]
      rw [e, if_pos (show (5 : Int32) < nI xs.length from nI_lt (a := 5) h5 (by omega)), c152_5, ret1, s206_40, if_neg (by decide)]
    · have e : sw (some xs) = if allW xs xs.length = true then 0 else 3 := by unfold sw; simp only; rw [if_neg h5]
      rw [if_neg (show ¬ (5 : Int32) < nI xs.length from nI_nlt (a := 5) (by omega) (by omega))]
      rcases X_first (mid := 206) (pc := 43) (d := d + 1) (Q := Q) (fun j => [.ref 68, .int (nI r), .int (nI j)]) (fun _ => (SH L, mi, ml, MR)) (fun _ => Q (some (.int (-3))) (SH L, xw (xw mi 68 17 (nI 3)) 81 3 (mi 81 3 + 1), ml, MR)) (fun j => ¬ goodW (xs.getD j 0)) xs.length (fun k hk hg => by rw [c206_step hr h hR hk, if_pos (Classical.not_not.mp hg)]) (fun k hk hg => by rw [c206_step hr h hR hk, if_neg hg]) with ⟨j, hj, hb, _, hq⟩ | ⟨hall, hq⟩
      · have h3 : ¬ allW xs xs.length = true := fun z => hb ((allW_iff xs _).mp z j hj)
        rw [e, if_neg h3, if_neg (by decide)]
        exact hq
      · have h3 : allW xs xs.length = true := (allW_iff xs _).mpr (fun i hi => Classical.not_not.mp (hall i hi))
        rw [e, if_pos h3, if_pos rfl]
        refine hq.trans ?_
        have h1' : mi 69 r = nI xs.length := by rw [hR] at h1; exact h1
        rw [s206_43 hx (fun z => absurd z (by rw [nI_clamp (by omega), h1']; exact nI_nlt (by omega) (by omega))), nI_clamp (by omega), h1', if_neg (nI_nlt (by omega) (by omega))]
end SAY
