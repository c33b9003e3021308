/-! bits, up to ten -/
theorem bit_or10 : ∀ k : Fin 10, ∀ m : Fin 1024, m.val < 2 ^ k.val → nI m.val ||| (1 <<< (nI k.val &&& 31)) = nI (m.val + 2 ^ k.val) := by decide +kernel
theorem bit_up10 : ∀ k : Fin 10, ∀ m : Fin 1024, nI m.val ||| (1 <<< (nI k.val &&& 31)) = nI (if m.val.testBit k.val = true then m.val else m.val + 2 ^ k.val) := by decide +kernel
theorem bit_has10 : ∀ k : Fin 10, ∀ m : Fin 1024, ((nI m.val >>> (nI k.val &&& 31)) &&& 1 = 1) ↔ m.val.testBit k.val = true := by decide +kernel
theorem maskN_bit (f : Nat → Bool) : ∀ n i, (maskN f n).testBit i = (decide (i < n) && f i) := by
  intro n
  induction n with
  | zero => intro i; simp [maskN]
  | succ n ih =>
    intro i
    have hlt := maskN_lt f n
    unfold maskN
    by_cases hf : f n = true
    · rw [if_pos hf, Nat.add_comm]
      rcases Nat.lt_trichotomy i n with h | h | h
      · rw [Nat.testBit_two_pow_add_gt h, ih i]
        simp [h, Nat.lt_succ_of_lt h]
      · subst h
        rw [Nat.testBit_two_pow_add_eq, ih i]
        simp [hf]
      · have h2 : 2 ^ n + maskN f n < 2 ^ i := by
          have : 2 ^ (n + 1) ≤ 2 ^ i := Nat.pow_le_pow_right (by omega) h
          rw [Nat.pow_succ] at this
          omega
        rw [Nat.testBit_lt_two_pow h2]
        simp [show ¬ i < n + 1 by omega]
    · rw [if_neg hf, Nat.add_zero, ih i]
      have hf : f n = false := Bool.eq_false_iff.mpr hf
      by_cases h : i = n
      · subst h; simp [hf]
      · by_cases h2 : i < n
        · simp [h2, Nat.lt_succ_of_lt h2]
        · simp [h2, show ¬ i < n + 1 by omega]
theorem mask_or10 {f : Nat → Bool} {k : Nat} (hk : k < 10) : nI (maskN f k) ||| (1 <<< (nI k &&& 31)) = nI (maskN f k + 2 ^ k) := by
  have hlt := maskN_lt f k
  have h64 : (2 : Nat) ^ k ≤ 2 ^ 10 := Nat.pow_le_pow_right (by omega) (by omega)
  exact bit_or10 ⟨k, hk⟩ ⟨maskN f k, by omega⟩ hlt
theorem mask_has10 {f : Nat → Bool} {k : Nat} (hk : k < 10) : ((nI (maskN f 10) >>> (nI k &&& 31)) &&& 1 = 1) ↔ f k = true := by
  have hlt := maskN_lt f 10
  rw [bit_has10 ⟨k, hk⟩ ⟨maskN f 10, hlt⟩]
  show (maskN f 10).testBit k = true ↔ _
  rw [maskN_bit]
  simp [hk]
theorem maskN_ext_f {f g : Nat → Bool} : ∀ n, (∀ i, i < n → f i = g i) → maskN f n = maskN g n := by
  intro n
  induction n with
  | zero => intro _; rfl
  | succ n ih =>
    intro h
    unfold maskN
    rw [ih (fun i hi => h i (by omega)), h n (by omega)]
theorem maskN_up {f : Nat → Bool} {w : Nat} : ∀ n, w < n → maskN (up f w true) n = if f w = true then maskN f n else maskN f n + 2 ^ w := by
  intro n
  induction n with
  | zero => intro h; omega
  | succ n ih =>
    intro h
    unfold maskN
    by_cases hw : w = n
    · subst hw
      have e : maskN (up f w true) w = maskN f w := maskN_ext_f w (fun i hi => by unfold up; rw [if_neg (by omega)])
      have e2 : up f w true w = true := by unfold up; rw [if_pos rfl]
      rw [e, e2]
      cases hf : f w <;> simp
    · have e2 : up f w true n = f n := by unfold up; rw [if_neg (by omega)]
      rw [ih (by omega), e2]
      split <;> omega
theorem or_up10 {f : Nat → Bool} {k : Nat} (hk : k < 10) : nI (maskN f 10) ||| (1 <<< (nI k &&& 31)) = nI (maskN (up f k true) 10) := by
  have hlt := maskN_lt f 10
  rw [bit_up10 ⟨k, hk⟩ ⟨maskN f 10, hlt⟩, maskN_up 10 hk]
  show nI (if (maskN f 10).testBit k = true then maskN f 10 else maskN f 10 + 2 ^ k) = _
  rw [maskN_bit]
  simp [hk]
theorem xw_xw {α : Type} {m : Nat → Nat → α} {a k : Nat} {v w : α} : xw (xw m a k v) a k w = xw m a k w := by
  funext b j
  unfold xw
  split <;> rfl
