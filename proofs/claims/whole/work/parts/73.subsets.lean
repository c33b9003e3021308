/-! sums over the subsets of the plants -/
theorem sN_congr {F G : Nat → Nat} : ∀ n, (∀ i, i < n → F i = G i) → sN F n = sN G n := by
  intro n
  induction n with
  | zero => intro _; rfl
  | succ n ih =>
    intro h
    show sN F n + F n = sN G n + G n
    rw [ih (fun i hi => h i (by omega)), h n (by omega)]
theorem sN_add {F : Nat → Nat} {a : Nat} : ∀ b, sN F (a + b) = sN F a + sN (fun i => F (a + i)) b := by
  intro b
  induction b with
  | zero => rfl
  | succ b ih =>
    show sN F (a + b) + F (a + b) = sN F a + (sN (fun i => F (a + i)) b + F (a + b))
    rw [ih, Nat.add_assoc]
theorem sN_mul {F : Nat → Nat} {c : Nat} : ∀ n, sN (fun l => F l * c) n = sN F n * c := by
  intro n
  induction n with
  | zero => show 0 = 0 * c; rw [Nat.zero_mul]
  | succ n ih =>
    show sN (fun l => F l * c) n + F n * c = (sN F n + F n) * c
    rw [ih, Nat.add_mul]
theorem sN_plus {F G : Nat → Nat} : ∀ n, sN (fun l => F l + G l) n = sN F n + sN G n := by
  intro n
  induction n with
  | zero => rfl
  | succ n ih =>
    show sN (fun l => F l + G l) n + (F n + G n) = sN F n + F n + (sN G n + G n)
    rw [ih]
    omega
theorem sN_zero : ∀ n, sN (fun _ => 0) n = 0 := by
  intro n
  induction n with
  | zero => rfl
  | succ n ih => show sN (fun _ => 0) n + 0 = 0; rw [ih]
theorem sN_swap {F : Nat → Nat → Nat} {m : Nat} : ∀ n, sN (fun l => sN (fun w => F l w) m) n = sN (fun w => sN (fun l => F l w) n) m := by
  intro n
  induction n with
  | zero => exact (sN_zero m).symm
  | succ n ih =>
    show sN (fun l => sN (fun w => F l w) m) n + sN (fun w => F n w) m = sN (fun w => sN (fun l => F l w) n + F n w) m
    rw [ih, sN_plus]
def c1N (l : Nat) : Nat → Nat
  | 0 => 0
  | n + 1 => c1N l n + (if l.testBit n = true then 1 else 0)
def c0N (f : Nat → Bool) (l : Nat) : Nat → Nat
  | 0 => 0
  | n + 1 => c0N f l n + (if f n = true ∧ ¬ l.testBit n = true then 1 else 0)
def subB (f : Nat → Bool) (l : Nat) : Nat → Bool
  | 0 => true
  | n + 1 => subB f l n && (!l.testBit n || f n)
def wt (f : Nat → Bool) (p l : Nat) : Nat → Nat
  | 0 => 1
  | n + 1 => wt f p l n * (if f n = true then (if l.testBit n = true then 12 - p else p) else (if l.testBit n = true then 0 else 1))
def grN (wd : Nat → Nat) (l : Nat) : Nat → Nat
  | 0 => 0
  | n + 1 => if l.testBit n = true ∧ grN wd l n < wd n then wd n else grN wd l n
def cntf (f : Nat → Bool) (n : Nat) : Nat := sN (fun i => if f i = true then 1 else 0) n
section SUBS
variable {f : Nat → Bool} {wd : Nat → Nat} {p l n w : Nat}
theorem wt_eq : ∀ n, wt f p l n = if subB f l n = true then (12 - p) ^ c1N l n * p ^ c0N f l n else 0 := by
  intro n
  induction n with
  | zero => rfl
  | succ n ih =>
    have e1 : wt f p l (n + 1) = wt f p l n * (if f n = true then (if l.testBit n = true then 12 - p else p) else (if l.testBit n = true then 0 else 1)) := rfl
    have e2 : subB f l (n + 1) = (subB f l n && (!l.testBit n || f n)) := rfl
    have e3 : c1N l (n + 1) = c1N l n + (if l.testBit n = true then 1 else 0) := rfl
    have e4 : c0N f l (n + 1) = c0N f l n + (if f n = true ∧ ¬ l.testBit n = true then 1 else 0) := rfl
    rw [e1, e2, e3, e4, ih]
    generalize subB f l n = s
    generalize c1N l n = a
    generalize c0N f l n = b
    generalize l.testBit n = t
    generalize f n = g
    cases s <;> cases t <;> cases g <;> simp [Nat.pow_succ]
    · rw [Nat.mul_assoc]
    · rw [Nat.mul_right_comm, Nat.mul_assoc]
theorem tb_hi (hl : l < 2 ^ n) {m : Nat} (hm : n ≤ m) : l.testBit m = false := Nat.testBit_lt_two_pow (Nat.lt_of_lt_of_le hl (Nat.pow_le_pow_right (by omega) hm))
theorem tb_lo {i : Nat} (h : i < n) : (2 ^ n + l).testBit i = l.testBit i := Nat.testBit_two_pow_add_gt h l
theorem tb_eq (hl : l < 2 ^ n) : (2 ^ n + l).testBit n = true := by
  rw [Nat.testBit_two_pow_add_eq, tb_hi hl (Nat.le_refl _)]
  rfl
theorem c1N_lo : ∀ k, k ≤ n → c1N (2 ^ n + l) k = c1N l k := by
  intro k
  induction k with
  | zero => intro _; rfl
  | succ k ih => intro h; unfold c1N; rw [ih (by omega), tb_lo (by omega)]
theorem wt_lo : ∀ k, k ≤ n → wt f p (2 ^ n + l) k = wt f p l k := by
  intro k
  induction k with
  | zero => intro _; rfl
  | succ k ih => intro h; unfold wt; rw [ih (by omega), tb_lo (by omega)]
theorem grN_lo : ∀ k, k ≤ n → grN wd (2 ^ n + l) k = grN wd l k := by
  intro k
  induction k with
  | zero => intro _; rfl
  | succ k ih => intro h; unfold grN; rw [ih (by omega), tb_lo (by omega)]
theorem wt_ext (hl : l < 2 ^ n) (hf : ∀ i, n ≤ i → f i = false) : ∀ m, wt f p l (n + m) = wt f p l n := by
  intro m
  induction m with
  | zero => rfl
  | succ m ih =>
    have e1 : wt f p l (n + m + 1) = wt f p l (n + m) * (if f (n + m) = true then (if l.testBit (n + m) = true then 12 - p else p) else (if l.testBit (n + m) = true then 0 else 1)) := rfl
    show wt f p l (n + m + 1) = _
    rw [e1, ih, hf (n + m) (by omega), tb_hi hl (show n ≤ n + m by omega)]
    simp
theorem c1N_ext (hl : l < 2 ^ n) : ∀ m, c1N l (n + m) = c1N l n := by
  intro m
  induction m with
  | zero => rfl
  | succ m ih =>
    have e1 : c1N l (n + m + 1) = c1N l (n + m) + (if l.testBit (n + m) = true then 1 else 0) := rfl
    show c1N l (n + m + 1) = _
    rw [e1, ih, tb_hi hl (show n ≤ n + m by omega)]
    simp
/-- a sum over the codes of n + 1 plants, by the last plant -/
theorem sum_last {F : Nat → Nat} : sN F (2 ^ (n + 1)) = sN F (2 ^ n) + sN (fun l => F (2 ^ n + l)) (2 ^ n) := by
  rw [Nat.pow_succ, Nat.mul_two, sN_add]
theorem wt_0 (hl : l < 2 ^ n) : wt f p l (n + 1) = wt f p l n * (if f n = true then p else 1) := by
  show wt f p l n * _ = _
  rw [tb_hi hl (Nat.le_refl _)]
  simp
theorem wt_1 (hl : l < 2 ^ n) : wt f p (2 ^ n + l) (n + 1) = wt f p l n * (if f n = true then 12 - p else 0) := by
  show wt f p (2 ^ n + l) n * _ = _
  rw [wt_lo n (Nat.le_refl _), tb_eq hl]
  simp
theorem c1N_0 (hl : l < 2 ^ n) : c1N l (n + 1) = c1N l n := c1N_ext hl 1
theorem c1N_1 (hl : l < 2 ^ n) : c1N (2 ^ n + l) (n + 1) = c1N l n + 1 := by
  show c1N (2 ^ n + l) n + _ = _
  rw [c1N_lo n (Nat.le_refl _), tb_eq hl]
  simp
theorem grN_0 (hl : l < 2 ^ n) : grN wd l (n + 1) = grN wd l n := by
  show (if l.testBit n = true ∧ _ then _ else _) = _
  rw [tb_hi hl (Nat.le_refl _)]
  simp
theorem grN_1 (hl : l < 2 ^ n) : grN wd (2 ^ n + l) (n + 1) = max (grN wd l n) (wd n) := by
  show (if (2 ^ n + l).testBit n = true ∧ grN wd (2 ^ n + l) n < wd n then wd n else grN wd (2 ^ n + l) n) = _
  rw [tb_eq hl, grN_lo n (Nat.le_refl _)]
  simp only [true_and]
  split <;> omega
/-- all weights together -/
theorem wt_all (hp : p ≤ 12) : ∀ n, sN (fun l => wt f p l n) (2 ^ n) = 12 ^ cntf f n := by
  intro n
  induction n with
  | zero => rfl
  | succ n ih =>
    rw [sum_last, sN_congr (2 ^ n) (fun l hl => wt_0 (f := f) (p := p) hl), sN_congr (2 ^ n) (fun l hl => wt_1 (f := f) (p := p) hl), sN_mul, sN_mul, ih]
    have e : cntf f (n + 1) = cntf f n + (if f n = true then 1 else 0) := rfl
    rw [e]
    cases f n
    · simp
    · simp only [if_true, Nat.pow_succ]
      rw [← Nat.mul_add, Nat.add_sub_cancel' hp]
def suchN (f : Nat → Bool) (wd : Nat → Nat) (w n : Nat) : Nat := sN (fun i => if f i = true ∧ w ≤ wd i then 1 else 0) n
def othN (f : Nat → Bool) (wd : Nat → Nat) (w n : Nat) : Nat := sN (fun i => if f i = true ∧ ¬ w ≤ wd i then 1 else 0) n
theorem such_oth : ∀ n, suchN f wd w n + othN f wd w n = cntf f n := by
  intro n
  unfold suchN othN cntf
  rw [← sN_plus]
  refine sN_congr n (fun i _ => ?_)
  cases f i <;> by_cases h : w ≤ wd i <;> simp [h]
/-- the weights of those that have no such word -/
theorem wt_less (hp : p ≤ 12) (hw : 0 < w) : ∀ n, sN (fun l => wt f p l n * (if grN wd l n < w then 1 else 0)) (2 ^ n) = p ^ suchN f wd w n * 12 ^ othN f wd w n := by
  intro n
  induction n with
  | zero =>
    show 0 + 1 * (if 0 < w then 1 else 0) = 1 * 1
    rw [if_pos hw]
  | succ n ih =>
    have e1 : suchN f wd w (n + 1) = suchN f wd w n + (if f n = true ∧ w ≤ wd n then 1 else 0) := rfl
    have e2 : othN f wd w (n + 1) = othN f wd w n + (if f n = true ∧ ¬ w ≤ wd n then 1 else 0) := rfl
    have h0 : ∀ l, l < 2 ^ n → wt f p l (n + 1) * (if grN wd l (n + 1) < w then 1 else 0) = wt f p l n * (if grN wd l n < w then 1 else 0) * (if f n = true then p else 1) := fun l hl => by
      rw [wt_0 hl, grN_0 hl, Nat.mul_right_comm]
    have h1 : ∀ l, l < 2 ^ n → wt f p (2 ^ n + l) (n + 1) * (if grN wd (2 ^ n + l) (n + 1) < w then 1 else 0) = wt f p l n * (if grN wd l n < w then 1 else 0) * (if f n = true ∧ ¬ w ≤ wd n then 12 - p else 0) := fun l hl => by
      rw [wt_1 hl, grN_1 hl]
      by_cases hg : grN wd l n < w
      · by_cases hx : w ≤ wd n
        · rw [if_neg (show ¬ max (grN wd l n) (wd n) < w by omega), if_neg (show ¬ (f n = true ∧ ¬ w ≤ wd n) from fun z => z.2 hx)]
          simp
        · rw [if_pos (show max (grN wd l n) (wd n) < w by omega), if_pos hg]
          cases f n <;> simp [hx]
      · rw [if_neg (show ¬ max (grN wd l n) (wd n) < w by omega), if_neg hg]
        simp
    rw [sum_last, sN_congr (2 ^ n) h0, sN_congr (2 ^ n) h1, sN_mul, sN_mul, ih, e1, e2]
    cases f n
    · simp
    · by_cases hx : w ≤ wd n
      · simp [hx, Nat.pow_succ, Nat.mul_right_comm]
      · simp only [true_and, if_true, hx, not_false_eq_true, if_false, Nat.pow_succ, Nat.add_zero]
        rw [← Nat.mul_add, Nat.add_sub_cancel' hp, Nat.mul_assoc]
theorem ind_sum : ∀ x : Fin 10, x.val = sN (fun w => if w + 1 ≤ x.val then 1 else 0) 9 := by decide
theorem grN_le (hw : ∀ i, wd i ≤ 9) : ∀ n, grN wd l n ≤ 9 := by
  intro n
  induction n with
  | zero => exact Nat.zero_le _
  | succ n ih =>
    have := hw n
    unfold grN
    split <;> omega
/-- the mean of the greatest -/
theorem wt_mid (hp : p ≤ 12) (hwd : ∀ i, wd i ≤ 9) : sN (fun l => wt f p l n * grN wd l n) (2 ^ n) = sN (fun w => 12 ^ cntf f n - p ^ suchN f wd (w + 1) n * 12 ^ othN f wd (w + 1) n) 9 := by
  have e1 : ∀ l, l < 2 ^ n → wt f p l n * grN wd l n = sN (fun w => wt f p l n * (if w + 1 ≤ grN wd l n then 1 else 0)) 9 := fun l _ => by
    have h9 := grN_le (wd := wd) (l := l) hwd n
    have h := ind_sum ⟨grN wd l n, by omega⟩
    have h : grN wd l n = sN (fun w => if w + 1 ≤ grN wd l n then 1 else 0) 9 := h
    have e : sN (fun w => wt f p l n * (if w + 1 ≤ grN wd l n then 1 else 0)) 9 = sN (fun w => (if w + 1 ≤ grN wd l n then 1 else 0) * wt f p l n) 9 := sN_congr 9 (fun w _ => Nat.mul_comm _ _)
    rw [e, sN_mul, ← h, Nat.mul_comm]
  rw [sN_congr (2 ^ n) e1, sN_swap]
  refine sN_congr 9 (fun w _ => ?_)
  have h1 := wt_less (f := f) (wd := wd) (w := w + 1) hp (by omega) n
  have h2 := wt_all (f := f) hp n
  have h3 : sN (fun l => wt f p l n * (if w + 1 ≤ grN wd l n then 1 else 0) + wt f p l n * (if grN wd l n < w + 1 then 1 else 0)) (2 ^ n) = sN (fun l => wt f p l n) (2 ^ n) := sN_congr _ (fun l _ => by
    by_cases hc : w + 1 ≤ grN wd l n
    · rw [if_pos hc, if_neg (by omega)]; omega
    · rw [if_neg hc, if_pos (by omega)]; omega)
  rw [sN_plus, h1, h2] at h3
  omega
/-- how many are left: row by row -/
def Lq (p : Nat) : Nat → Nat → Nat
  | 0, j => if j = 0 then 1 else 0
  | m + 1, j => Lq p m j * p + (if j = 0 then 0 else Lq p m (j - 1) * (12 - p))
def Uq (p m v : Nat) : Nat := sN (fun j => if v ≤ j then Lq p m j else 0) 7
theorem Uq_0 : ∀ p : Fin 13, ∀ v : Fin 7, Uq p.val 0 v.val = if v.val = 0 then 1 else 0 := by decide +kernel
theorem Uq_s : ∀ p : Fin 13, ∀ m : Fin 6, ∀ v : Fin 7, Uq p.val (m.val + 1) v.val = Uq p.val m.val v.val * p.val + Uq p.val m.val (v.val - 1) * (12 - p.val) := by decide +kernel
theorem cntf_le : ∀ n, cntf f n ≤ n := by
  intro n
  induction n with
  | zero => exact Nat.le_refl _
  | succ n ih =>
    show cntf f n + (if f n = true then 1 else 0) ≤ n + 1
    split <;> omega
theorem wt_odds (hp : p ≤ 12) : ∀ n v, n ≤ 6 → v ≤ 6 → sN (fun l => wt f p l n * (if v ≤ c1N l n then 1 else 0)) (2 ^ n) = Uq p (cntf f n) v := by
  intro n
  induction n with
  | zero =>
    intro v _ hv
    have hu : Uq p 0 v = if v = 0 then 1 else 0 := Uq_0 ⟨p, by omega⟩ ⟨v, by omega⟩
    rw [show cntf f 0 = 0 from rfl, hu]
    show 0 + 1 * (if v ≤ 0 then 1 else 0) = _
    by_cases h : v = 0
    · rw [if_pos (by omega), if_pos h]
    · rw [if_neg (by omega), if_neg h]
  | succ n ih =>
    intro v hn hv
    have hc := cntf_le (f := f) n
    have h0 : ∀ l, l < 2 ^ n → wt f p l (n + 1) * (if v ≤ c1N l (n + 1) then 1 else 0) = wt f p l n * (if v ≤ c1N l n then 1 else 0) * (if f n = true then p else 1) := fun l hl => by
      rw [wt_0 hl, c1N_0 hl, Nat.mul_right_comm]
    have h1 : ∀ l, l < 2 ^ n → wt f p (2 ^ n + l) (n + 1) * (if v ≤ c1N (2 ^ n + l) (n + 1) then 1 else 0) = wt f p l n * (if v - 1 ≤ c1N l n then 1 else 0) * (if f n = true then 12 - p else 0) := fun l hl => by
      rw [wt_1 hl, c1N_1 hl, Nat.mul_right_comm]
      by_cases hx : v ≤ c1N l n + 1
      · rw [if_pos hx, if_pos (show v - 1 ≤ c1N l n by omega)]
      · rw [if_neg hx, if_neg (show ¬ v - 1 ≤ c1N l n by omega)]
    rw [sum_last, sN_congr (2 ^ n) h0, sN_congr (2 ^ n) h1, sN_mul, sN_mul, ih v (by omega) hv, ih (v - 1) (by omega) (by omega)]
    have e : cntf f (n + 1) = cntf f n + (if f n = true then 1 else 0) := rfl
    rw [e]
    cases f n
    · simp
    · simp only [if_true]
      exact (Uq_s ⟨p, by omega⟩ ⟨cntf f n, by omega⟩ ⟨v, by omega⟩).symm
end SUBS
