/-! ways: the class goes through them -/
def itN {α : Type} (F : Nat → α → α) : Nat → α → α
  | 0, a => a
  | n + 1, a => F n (itN F n a)
/-- many, in all, in any, first -/
abbrev pW : Type := Nat × Int32 × Int32 × Int32
def addW (A : pW) (b h : Int32) : pW := (A.1 + 1, if A.1 = 0 then b else A.2.1 &&& b, A.2.2.1 ||| b, if A.1 = 0 then h else A.2.2.2)
abbrev mayS (P : pP) (g : pG) (xs : List Int32) (nx : Nat → Nat) (i k : Nat) : Prop := mayX P g nx i ∧ wordP (pl P i) (nx i) = wv xs k
def dfs (P : pP) (g : pG) (xs : List Int32) : Nat → Nat → (Nat → Nat) → (Nat → Bool) → Int32 → pW → pW
  | 0, _, _, f, h, A => addW A (nI (maskN f 6)) h
  | r + 1, k, nx, f, h, A => itN (fun i A => if mayS P g xs nx i k then dfs P g xs r (k + 1) (up nx i (nx i + 1)) (up f i true) (if k = 0 then nI i else h) A else A) 6 A
theorem itN_le {F : Nat → pW → pW} {c : Nat} (h : ∀ i A, (F i A).1 ≤ A.1 + c) : ∀ n A, (itN F n A).1 ≤ A.1 + n * c := by
  intro n A
  induction n with
  | zero => show A.1 ≤ A.1 + 0 * c; omega
  | succ n ih =>
    have := h n (itN F n A)
    show (F n (itN F n A)).1 ≤ _
    rw [Nat.succ_mul]
    omega
theorem dfs_le {P : pP} {g : pG} {xs : List Int32} : ∀ r k nx f h A, (dfs P g xs r k nx f h A).1 ≤ A.1 + 6 ^ r := by
  intro r
  induction r with
  | zero => intro k nx f h A; exact Nat.le_refl _
  | succ r ih =>
    intro k nx f h A
    have := itN_le (F := fun i A => if mayS P g xs nx i k then dfs P g xs r (k + 1) (up nx i (nx i + 1)) (up f i true) (if k = 0 then nI i else h) A else A) (c := 6 ^ r) (fun i A => by
      show (if mayS P g xs nx i k then dfs P g xs r (k + 1) (up nx i (nx i + 1)) (up f i true) (if k = 0 then nI i else h) A else A).1 ≤ _
      split
      · exact ih _ _ _ _ _
      · exact Nat.le_add_right _ _) 6 A
    rw [Nat.pow_succ, Nat.mul_comm]
    exact this
def acW (m : Nat → Nat → Int32) (A : pW) : Nat → Nat → Int32 := fun a j => if a = 51 then (if j = 8 then nI A.1 else if j = 9 then A.2.1 else if j = 10 then A.2.2.1 else if j = 11 then A.2.2.2 else m 51 j) else m a j
section ACW
variable {m : Nat → Nat → Int32} {A : pW}
theorem acW_ne {a j : Nat} (h : a ≠ 51) : acW m A a j = m a j := by
  unfold acW
  rw [if_neg h]
theorem acW_xw {b j : Nat} {v : Int32} (h : b ≠ 51) : xw (acW m A) b j v = acW (xw m b j v) A := by
  funext a i
  unfold xw acW
  by_cases h1 : a = 51
  · subst h1
    simp [Ne.symm h]
  · simp [h1]
theorem acW_4 {x8 : Nat} {x9 x10 x11 : Int32} : xw (xw (xw (xw m 51 8 (nI x8)) 51 9 x9) 51 10 x10) 51 11 x11 = acW m (x8, x9, x10, x11) := by
  funext a j
  unfold xw acW
  by_cases h1 : a = 51
  · subst h1
    by_cases h8 : j = 8
    · subst h8; simp
    · by_cases h9 : j = 9
      · subst h9; simp
      · by_cases h10 : j = 10
        · subst h10; simp
        · by_cases h11 : j = 11
          · subst h11; simp
          · simp [h8, h9, h10, h11]
  · simp [h1]
theorem acW_w {B : pW} {x11 x9 x10 x8 : Int32} (h8 : x8 = nI B.1) (h9 : x9 = B.2.1) (h10 : x10 = B.2.2.1) (h11 : x11 = B.2.2.2) : xw (xw (xw (xw (acW m A) 51 11 x11) 51 9 x9) 51 10 x10) 51 8 x8 = acW m B := by
  subst h8; subst h9; subst h10; subst h11
  funext a j
  unfold xw acW
  by_cases h1 : a = 51
  · subst h1
    by_cases h8 : j = 8
    · subst h8; simp
    · by_cases h9 : j = 9
      · subst h9; simp
      · by_cases h10 : j = 10
        · subst h10; simp
        · by_cases h11 : j = 11
          · subst h11; simp
          · simp [h8, h9, h10, h11]
  · simp [h1]
end ACW
theorem opX_take {P : pP} {g : pG} {nx : Nat → Nat} {i : Nat} : opX P g (up nx i (nx i + 1)) = up (opX P g nx) i (opX P g nx i - 1) := by
  funext j
  by_cases h : j = i
  · subst h
    have e1 : up nx j (nx j + 1) j = nx j + 1 := by unfold up; rw [if_pos rfl]
    have e2 : up (opX P g nx) j (opX P g nx j - 1) j = opX P g nx j - 1 := by unfold up; rw [if_pos rfl]
    rw [e2]
    unfold opX
    rw [e1]
    split
    · split
      · omega
      · rfl
    · rfl
  · have e1 : up nx i (nx i + 1) j = nx j := by unfold up; rw [if_neg h]
    have e2 : up (opX P g nx) i (opX P g nx i - 1) j = opX P g nx j := by unfold up; rw [if_neg h]
    rw [e2]
    unfold opX
    rw [e1]
theorem up_up {α : Type} {f : Nat → α} {i : Nat} {a b : α} : up (up f i a) i b = up f i b := by
  funext j
  unfold up
  split <;> rfl
theorem up_id {α : Type} {f : Nat → α} {i : Nat} : up f i (f i) = f := by
  funext j
  unfold up
  split
  · rename_i h; rw [h]
  · rfl
section WAYS
variable {P : pP} {g : pG} {L : Nat} {mi : Nat → Nat → Int32} {ml : Nat → Nat → Int64} {d : Nat} {Q : Option Value → xM → Prop} {xs : List Int32} {nx : Nat → Nat} {A : pW} {i : Nat}
theorem c37 (hi : i < 6) (hm : mayX P g nx i) : Xm 37 [.ref 48, .int (nI i)] (SH L, acW (hvW mi (opX P g nx) nx 6) A, ml, MR) d Q = Q none (SH L, acW (hvW mi (opX P g (up nx i (nx i + 1))) (up nx i (nx i + 1)) 6) A, ml, MR) := by
  have hx : xin (nI i) 6 = true := xin_nI hi (by omega)
  have hop := opX_pos.mpr hm
  rw [s37 (fun _ _ => hx) (fun _ _ => hx) (fun _ _ => hx) (fun _ _ => hx), if_neg (nI_nneg (by omega)), if_pos (show nI i < 6 from nI_lt (b := 6) hi (by omega)), nI_clamp (by omega), acW_ne (by omega), hvW_49 hi, show nI (opX P g nx i) - 1 = nI (opX P g nx i - 1) from nI_sub (b := 1) (by omega), xw_ne (by omega), acW_ne (by omega), hvW_50 hi, nI_1, acW_xw (by omega), acW_xw (by omega), hvW_up hi, opX_take]
theorem c38 (hi : i < 6) (hm : mayX P g nx i) : Xm 38 [.ref 48, .int (nI i)] (SH L, acW (hvW mi (opX P g (up nx i (nx i + 1))) (up nx i (nx i + 1)) 6) A, ml, MR) d Q = Q none (SH L, acW (hvW mi (opX P g nx) nx 6) A, ml, MR) := by
  have hx : xin (nI i) 6 = true := xin_nI hi (by omega)
  have hop := opX_pos.mpr hm
  have e1 : up nx i (nx i + 1) i = nx i + 1 := by unfold up; rw [if_pos rfl]
  have e2 : up (opX P g nx) i (opX P g nx i - 1) i = opX P g nx i - 1 := by unfold up; rw [if_pos rfl]
  rw [s38 (fun _ _ => hx) (fun _ _ => hx) (fun _ _ => hx) (fun _ _ => hx), if_neg (nI_nneg (by omega)), if_pos (show nI i < 6 from nI_lt (b := 6) hi (by omega)), nI_clamp (by omega), acW_ne (by omega), hvW_49 hi, opX_take, e2, nI_1, show opX P g nx i - 1 + 1 = opX P g nx i by omega, xw_ne (by omega), acW_ne (by omega), hvW_50 hi, e1, show nI (nx i + 1) - 1 = nI (nx i) from nI_sub (a := nx i + 1) (b := 1) (by omega), acW_xw (by omega), acW_xw (by omega), hvW_up hi, up_up, up_up, up_id, up_id]
theorem c76_end {m : Nat → Nat → Int32} {x1 b h y z0 : Int32} (hA : A.1 < 2 ^ 30) (hz : ¬ z0 < y) : X 76 8 [.ref 51, .int x1, .int b, .int h, xmk] [.int y, .int z0] (SH L, acW m A, ml, MR) d Q = Q none (SH L, acW m (addW A b h), ml, MR) := by
  have e8 : acW m A 51 8 = nI A.1 := rfl
  have e9 : acW m A 51 9 = A.2.1 := rfl
  have e10 : acW m A 51 10 = A.2.2.1 := rfl
  have e11 : acW m A 51 11 = A.2.2.2 := rfl
  rw [s76_8, if_neg hz]
  by_cases h0 : A.1 = 0
  · rw [if_pos (show acW m A 51 8 = 0 by rw [e8, h0]; rfl), if_pos (show xw (acW m A) 51 11 h 51 8 = 0 by rw [xw_eq, if_neg (by decide), e8, h0]; rfl)]
    rw [acW_w (B := addW A b h)]
    · rw [xw_eq, if_neg (by decide), xw_eq, if_neg (by decide), xw_eq, if_neg (by decide), e8, nI_1]; rfl
    · unfold addW; rw [if_pos h0]
    · rw [xw_eq, if_neg (by decide), xw_eq, if_neg (by decide), e10]; rfl
    · show h = if A.1 = 0 then h else A.2.2.2
      rw [if_pos h0]
  · have hne : ¬ nI A.1 = 0 := nI_ne0 (by omega) (by omega)
    rw [if_neg (show ¬ acW m A 51 8 = 0 from hne), if_neg (show ¬ xw (acW m A) 51 11 (acW m A 51 11) 51 8 = 0 by rw [xw_eq, if_neg (by decide)]; exact hne)]
    rw [acW_w (B := addW A b h)]
    · rw [xw_eq, if_neg (by decide), xw_eq, if_neg (by decide), xw_eq, if_neg (by decide), e8, nI_1]; rfl
    · rw [xw_eq, if_neg (by decide), e9]; unfold addW; rw [if_neg h0]
    · rw [xw_eq, if_neg (by decide), xw_eq, if_neg (by decide), e10]; rfl
    · show acW m A 51 11 = if A.1 = 0 then h else A.2.2.2
      rw [if_neg h0, e11]
theorem c76 (hok : okP P) (h2 : mi 38 2 = nI P.length) (hpl : ∀ i, i < P.length → plR mi (42 + i) (pl P i) (gW g i) (gP g i) (gE g i)) (hst : stR mi 52 (some xs)) (h5 : xs.length ≤ 5) (hgd : ∀ i, i < xs.length → goodW (xs.getD i 0)) : ∀ r k nx f h A d D, D = d + r + 3 → k + r = xs.length → A.1 + 6 ^ r < 2 ^ 30 → ∀ Q, Xm 76 [.ref 51, .int (nI k), .int (nI (maskN f 6)), .int h] (SH L, acW (hvW mi (opX P g nx) nx 6) A, ml, MR) D Q = Q none (SH L, acW (hvW mi (opX P g nx) nx 6) (dfs P g xs r k nx f h A), ml, MR) := by
  have hP := hok.1
  have fact : ∀ (nx : Nat → Nat) (A : pW) (a j : Nat), a ≠ 49 → a ≠ 50 → a ≠ 51 → acW (hvW mi (opX P g nx) nx 6) A a j = mi a j := fun nx A a j h1 h2 h3 => by rw [acW_ne h3, hvW_ne h1 h2]
  have hst' : ∀ (nx : Nat → Nat) (A : pW), stR (acW (hvW mi (opX P g nx) nx 6) A) 52 (some xs) := fun nx A => stR_congr hst (fact nx A _ _ (by omega) (by omega) (by omega)) (fun j => fact nx A _ _ (by omega) (by omega) (by omega))
  have hhv : ∀ (nx : Nat → Nat) (A : pW), hvR (acW (hvW mi (opX P g nx) nx 6) A) P g nx := fun nx A i hi => ⟨by rw [acW_ne (by omega), hvW_49 hi], by rw [acW_ne (by omega), hvW_50 hi]⟩
  have hpl' : ∀ (nx : Nat → Nat) (A : pW) (i : Nat), i < P.length → plR (acW (hvW mi (opX P g nx) nx 6) A) (42 + i) (pl P i) (gW g i) (gP g i) (gE g i) := fun nx A i hi => by
    have := hpl i hi
    unfold plR at this ⊢
    simp only [fact nx A (42 + i) _ (by omega) (by omega) (by omega)]
    exact this
  intro r
  induction r with
  | zero =>
    intro k nx f h A d D hD hk hA Q
    subst hD
    rw [s76, c88 (sh52 L) (hst' nx A), ret1, c76_end (by simp at hA; omega) (show ¬ nI k < szI (some xs) from nI_nlt (by omega) (by omega))]
    rfl
  | succ r ih =>
    intro k nx f h A d D hD hk hA Q
    subst hD
    have h6 : 6 ^ (r + 1) = 6 * 6 ^ r := by rw [Nat.pow_succ, Nat.mul_comm]
    obtain ⟨w1, w2⟩ := wv_ok (hgd k (by omega))
    rw [s76, c88 (sh52 L) (hst' nx A), ret1, s76_8, if_pos (show nI k < szI (some xs) from nI_lt (by omega) (by omega))]
    have hl := X_loop (mid := 76) (pc := 75) (d := d + (r + 1) + 3) (Q := Q) (fun i => [.ref 51, .int (nI k), .int (nI (maskN f 6)), .int h, .int (nI i)]) (fun i => (SH L, acW (hvW mi (opX P g nx) nx 6) (itN (fun i A => if mayS P g xs nx i k then dfs P g xs r (k + 1) (up nx i (nx i + 1)) (up f i true) (if k = 0 then nI i else h) A else A) i A), ml, MR)) 6 (fun i hi => by
      have hle := itN_le (F := fun i A => if mayS P g xs nx i k then dfs P g xs r (k + 1) (up nx i (nx i + 1)) (up f i true) (if k = 0 then nI i else h) A else A) (c := 6 ^ r) (fun i A => by
        show (if mayS P g xs nx i k then dfs P g xs r (k + 1) (up nx i (nx i + 1)) (up f i true) (if k = 0 then nI i else h) A else A).1 ≤ _
        split
        · exact dfs_le _ _ _ _ _ _
        · exact Nat.le_add_right _ _) i A
      have hmul : i * 6 ^ r + 6 ^ r ≤ 6 * 6 ^ r := by
        rw [← Nat.succ_mul]
        exact Nat.mul_le_mul_right _ hi
      show _ = X 76 75 _ [] (SH L, acW (hvW mi (opX P g nx) nx 6) (if mayS P g xs nx i k then dfs P g xs r (k + 1) (up nx i (nx i + 1)) (up f i true) (if k = 0 then nI i else h) (itN (fun i A => if mayS P g xs nx i k then dfs P g xs r (k + 1) (up nx i (nx i + 1)) (up f i true) (if k = 0 then nI i else h) A else A) i A) else itN (fun i A => if mayS P g xs nx i k then dfs P g xs r (k + 1) (up nx i (nx i + 1)) (up f i true) (if k = 0 then nI i else h) A else A) i A), ml, MR) _ _
      generalize itN (fun i A => if mayS P g xs nx i k then dfs P g xs r (k + 1) (up nx i (nx i + 1)) (up f i true) (if k = 0 then nI i else h) A else A) i A = B at hle ⊢
      rw [s76_75, if_pos (show nI i < 6 from nI_lt (b := 6) hi (by omega)), c35 (hhv nx B) hi, ret1, s76_91]
      by_cases hm : mayX P g nx i
      · have hwl := wordP_lt (pl P i) (nx i)
        have hn9 := mayX_lt hm
        rw [bI_t hm, if_neg i1_ne0]
        refine (c36 (d := d + (r + 1)) hok (by rw [fact _ _ _ _ (by omega) (by omega) (by omega)]; exact h2) (hpl' nx B i hm.1) (hhv nx B) hm.1 (by omega)).trans ?_
        rw [ret1, s76_103, c90 (sh52 L) (hst' nx B) (by omega) h5 (by omega), w1, ret1, s76_111]
        by_cases hw : wordP (pl P i) (nx i) = wv xs k
        · rw [if_pos (congrArg nI hw), c37 hi hm, ret0, s76_123, or_n _ hi, nI_1, if_pos (show mayS P g xs nx i k from ⟨hm, hw⟩)]
          have ihk := fun Q hh => ih (k + 1) (up nx i (nx i + 1)) (up f i true) hh B d (d + (r + 1) + 2) (by omega) (by omega) (by omega) Q
          by_cases hk0 : k = 0
          · rw [if_pos (show nI k = 0 by rw [hk0]; rfl), if_pos hk0]
            refine (ihk _ _).trans ?_
            rw [ret0, s76_146, c38 hi hm, ret0, s76_155, nI_1]
          · rw [if_neg (show ¬ nI k = 0 from nI_ne0 (by omega) (by omega)), if_neg hk0]
            refine (ihk _ _).trans ?_
            rw [ret0, s76_146, c38 hi hm, ret0, s76_155, nI_1]
        · rw [if_neg (fun z => hw (nI_inj (by omega) (by omega) z)), if_neg (fun z => hw z.2), nI_1]
      · rw [bI_f hm, if_pos rfl, if_neg (fun z => hm z.1), nI_1])
    refine hl.trans ?_
    rw [s76_75, if_neg (by decide)]
    rfl
end WAYS
