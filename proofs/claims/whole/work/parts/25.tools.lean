/-! tools for the contracts -/
theorem ofNat_nI (n : Nat) : Int32.ofNat n = nI n := rfl
theorem nI_mul (a b : Nat) : nI a * nI b = nI (a * b) := (Int32.ofNat_mul a b).symm
theorem nI_sub {a b : Nat} (h : b ≤ a) : nI a - nI b = nI (a - b) := by
  have : nI (a - b) + nI b = nI a := by rw [nI_add]; congr 1; omega
  rw [← this]
  exact Int32.add_sub_cancel _ _
theorem nI_inj {a b : Nat} (ha : a < 2 ^ 31) (hb : b < 2 ^ 31) (h : nI a = nI b) : a = b := (nI_eq ha hb).mp h
theorem i32_cases (x : Int32) : x < 0 ∨ ∃ k, k < 2 ^ 31 ∧ x = nI k := by
  rcases Int.lt_or_le x.toInt 0 with h | h
  · exact Or.inl (Int32.lt_iff_toInt_lt.mpr h)
  · right
    have h2 := x.toInt_lt
    refine ⟨x.toInt.toNat, by omega, Int32.toInt_inj.mp ?_⟩
    rw [nI_toInt (by omega)]
    omega
theorem nI_nneg {k : Nat} (h : k < 2 ^ 31) : ¬ nI k < 0 := nI_pos h
theorem xin_nI {k n : Nat} (h : k < n) (hn : n < 2 ^ 31) : xin (nI k) n = true := xin_of (nI_pos (by omega)) (nI_lt h hn) hn
theorem nI_div {a b : Nat} (ha : a < 2 ^ 31) (hb : b < 2 ^ 31) : nI a / nI b = nI (a / b) := by
  have hq : a / b ≤ a := Nat.div_le_self a b
  apply Int32.toInt_inj.mp
  rw [nI_toInt (by omega), Int32.toInt_div, nI_toInt ha, nI_toInt hb]
  rw [show (a : Int).tdiv (b : Int) = ((a / b : Nat) : Int) from rfl]
  have hlt : ((a / b : Nat) : Int) < 2147483648 := by omega
  have hge : (0 : Int) ≤ ((a / b : Nat) : Int) := Int.natCast_nonneg _
  generalize ((a / b : Nat) : Int) = z at hlt hge ⊢
  rw [Int.bmod_def, Int.emod_eq_of_lt hge (by show z < 4294967296; omega), if_pos (by show z < 2147483648; exact hlt)]
theorem nI_rem {a b : Nat} (ha : a < 2 ^ 31) (hb : b < 2 ^ 31) : nI a - nI a / nI b * nI b = nI (a % b) := by
  have h1 : a / b * b ≤ a := Nat.div_mul_le_self a b
  rw [nI_div ha hb, nI_mul, nI_sub h1]
  congr 1
  have := Nat.div_add_mod a b
  rw [Nat.mul_comm] at this
  omega
/-- a loop of n turns -/
theorem X_loop {mid pc d : Nat} {Q : Option Value → xM → Prop} (S : Nat → List Value) (M : Nat → xM) (n : Nat) (h : ∀ k, k < n → X mid pc (S k) [] (M k) d Q = X mid pc (S (k + 1)) [] (M (k + 1)) d Q) : X mid pc (S 0) [] (M 0) d Q = X mid pc (S n) [] (M n) d Q := by
  induction n with
  | zero => rfl
  | succ n ih => rw [ih (fun k hk => h k (by omega))]; exact h n (by omega)
/-- a loop that may leave: turn j leaves, if it is the first that does -/
theorem X_first {mid pc d : Nat} {Q : Option Value → xM → Prop} (S : Nat → List Value) (M : Nat → xM) (E : Nat → Prop) (c : Nat → Prop) (n : Nat) (h : ∀ k, k < n → ¬ c k → X mid pc (S k) [] (M k) d Q = X mid pc (S (k + 1)) [] (M (k + 1)) d Q) (hc : ∀ k, k < n → c k → X mid pc (S k) [] (M k) d Q = E k) :
    (∃ j, j < n ∧ c j ∧ (∀ i, i < j → ¬ c i) ∧ X mid pc (S 0) [] (M 0) d Q = E j) ∨ ((∀ i, i < n → ¬ c i) ∧ X mid pc (S 0) [] (M 0) d Q = X mid pc (S n) [] (M n) d Q) := by
  induction n with
  | zero => exact Or.inr ⟨fun i hi => absurd hi (Nat.not_lt_zero i), rfl⟩
  | succ n ih =>
    rcases ih (fun k hk => h k (by omega)) (fun k hk => hc k (by omega)) with ⟨j, hj, h1, h2, h3⟩ | ⟨h1, h2⟩
    · exact Or.inl ⟨j, by omega, h1, h2, h3⟩
    · by_cases hn : c n
      · exact Or.inl ⟨n, by omega, hn, h1, by rw [h2]; exact hc n (by omega) hn⟩
      · refine Or.inr ⟨fun i hi => ?_, by rw [h2]; exact h n (by omega) hn⟩
        rcases Nat.lt_or_ge i n with hh | hh
        · exact h1 i hh
        · rw [show i = n by omega]; exact hn
def xfill (m : Nat → Nat → Int32) (b n : Nat) (v : Int32) : Nat → Nat → Int32 := fun c j => if c = b ∧ j < n then v else m c j
theorem xfill_0 (m : Nat → Nat → Int32) (b : Nat) (v : Int32) : xfill m b 0 v = m := by
  funext c j
  simp [xfill]
theorem xfill_s (m : Nat → Nat → Int32) (b n : Nat) (v : Int32) : xw (xfill m b n v) b n v = xfill m b (n + 1) v := by
  funext c j
  unfold xw xfill
  by_cases h1 : c = b
  · by_cases h2 : j = n
    · simp [h1, h2]
    · by_cases h3 : j < n
      · simp [h1, h2, h3, show j < n + 1 by omega]
      · simp [h1, h2, h3, show ¬ j < n + 1 by omega]
  · simp [h1]
theorem xfill_ne {m : Nat → Nat → Int32} {b n c : Nat} {v : Int32} (h : c ≠ b) (j : Nat) : xfill m b n v c j = m c j := by simp [xfill, h]
theorem ret1 {v : Value} {r : List Value} : (some v).toList ++ r = v :: r := rfl
theorem ret0 {r : List Value} : (none : Option Value).toList ++ r = r := rfl
def bI (p : Prop) [Decidable p] : Int32 := if p then 1 else 0
theorem bI_0 {p : Prop} [Decidable p] : (bI p = 0) = ¬ p := by unfold bI; split <;> simp_all
theorem bI_or {p : Prop} [Decidable p] : bI p = 0 ∨ bI p = 1 := by unfold bI; split <;> simp
/-! strips -/
/-- a strip at cell a holds x -/
def stR (mi : Nat → Nat → Int32) (a : Nat) (x : Option (List Int32)) : Prop := match x with
  | none => mi a 1 = -1
  | some xs => mi a 1 = nI xs.length ∧ ∀ j, j < xs.length → mi (a + 1) j = xs.getD j 0
def szI (x : Option (List Int32)) : Int32 := match x with
  | none => -1
  | some xs => nI xs.length
theorem stR_sz {mi : Nat → Nat → Int32} {a : Nat} {x : Option (List Int32)} (h : stR mi a x) : mi a 1 = szI x := by
  cases x with
  | none => exact h
  | some xs => exact h.1
theorem stR_congr {mi mi' : Nat → Nat → Int32} {a : Nat} {x : Option (List Int32)} (h : stR mi a x) (h1 : mi' a 1 = mi a 1) (h2 : ∀ j, mi' (a + 1) j = mi (a + 1) j) : stR mi' a x := by
  cases x with
  | none => exact h1.trans h
  | some xs => exact ⟨h1.trans h.1, fun j hj => (h2 j).trans (h.2 j hj)⟩
section STRIP
variable {L : Nat} {mi : Nat → Nat → Int32} {ml : Nat → Nat → Int64} {d : Nat} {Q : Option Value → xM → Prop} {a n : Nat}
theorem c87 {x : Option (List Int32)} (hS : isStrip L a n) (h : stR mi a x) (hn : n < 1000) (hx : ∀ xs, x = some xs → xs.length ≤ n) : Xm 87 [.ref a] (SH L, mi, ml, MR) d Q = Q (some (.int (bI (x = none)))) (SH L, mi, ml, MR) := by
  cases x with
  | none =>
    have h : mi a 1 = -1 := h
    rw [s87 hS, h]
    rfl
  | some xs =>
    have := hx xs rfl
    rw [s87 hS, h.1, if_neg (nI_nneg (by omega))]
    rfl
theorem c88 {x : Option (List Int32)} (hS : isStrip L a n) (h : stR mi a x) : Xm 88 [.ref a] (SH L, mi, ml, MR) d Q = Q (some (.int (szI x))) (SH L, mi, ml, MR) := by
  rw [s88 hS, stR_sz h]
/-- get at a place from 0 on -/
theorem c90 {xs : List Int32} {i : Nat} (hS : isStrip L a n) (h : stR mi a (some xs)) (hn : n < 1000) (hx : xs.length ≤ n) (hi : i < 2 ^ 31) : Xm 90 [.ref a, .int (nI i)] (SH L, mi, ml, MR) d Q = Q (some (.int (xs.getD i 0))) (SH L, mi, ml, MR) := by
  rw [s90 hS (fun _ _ h3 => xin_of (nI_nneg hi) h3 (by omega)), h.1, if_neg (nI_nneg hi), nI_clamp hi]
  by_cases h1 : i < xs.length
  · rw [if_pos (nI_lt h1 (by omega)), ofNat_nI, if_pos (nI_lt (by omega) (by omega)), h.2 i h1]
  · rw [if_neg (nI_nlt (by omega) (by omega)), List.getD_eq_getElem?_getD, List.getElem?_eq_none (by omega)]
    rfl
theorem c91 {xs : List Int32} {i : Nat} {v : Int32} (hS : isStrip L a n) (h : stR mi a (some xs)) (hn : n < 1000) (hx : xs.length ≤ n) (hi : i < xs.length) : Xm 91 [.ref a, .int (nI i), .int v] (SH L, mi, ml, MR) d Q = Q none (SH L, xw mi (a + 1) i v, ml, MR) := by
  rw [s91 hS (fun _ _ h3 => xin_of (nI_nneg (by omega)) h3 (by omega)), h.1, if_neg (nI_nneg (by omega)), if_pos (nI_lt hi (by omega)), ofNat_nI, if_pos (nI_lt (by omega) (by omega)), nI_clamp (by omega)]
theorem stR_set {xs : List Int32} {i : Nat} {v : Int32} (h : stR mi a (some xs)) : stR (xw mi (a + 1) i v) a (some (xs.set i v)) := by
  refine ⟨by rw [xw_ne (by omega), h.1, List.length_set], fun j hj => ?_⟩
  rw [List.length_set] at hj
  rw [xw_eq, List.getD_eq_getElem?_getD, List.getElem?_set]
  by_cases hji : j = i
  · subst hji; rw [if_pos rfl, if_pos rfl, if_pos hj]; rfl
  · rw [if_neg hji, if_neg (fun e => hji e.symm), h.2 j hj, List.getD_eq_getElem?_getD]
theorem c92 {k : Nat} {v : Int32} (hS : isStrip L a n) (hn : n < 1000) (hk : k ≤ n) : Xm 92 [.ref a, .int (nI k), .int v] (SH L, mi, ml, MR) d Q = Q none (SH L, xfill (xw mi a 1 (nI k)) (a + 1) k v, ml, MR) := by
  rw [s92 hS, ofNat_nI, if_neg (show ¬ nI n < nI k from nI_nlt hk (by omega))]
  have e : (if (0 : Int32) < nI k then nI k else 0) = nI k := by
    by_cases h0 : k = 0
    · subst h0; rfl
    · exact if_pos (show (0 : Int32) < nI k from nI_lt (a := 0) (by omega) (by omega))
  rw [e]
  have hl := X_loop (mid := 92) (pc := 19) (d := d) (Q := Q) (fun j => [.ref a, .int (nI k), .int v, .int (nI j)]) (fun j => (SH L, xfill (xw mi a 1 (nI k)) (a + 1) j v, ml, MR)) k (fun j hj => by
    have e1 : xfill (xw mi a 1 (nI k)) (a + 1) j v a 1 = nI k := by rw [xfill_ne (by omega), xw_eq, if_pos rfl]
    rw [s92_19 hS (fun _ h2 => xin_of (nI_nneg (by omega)) h2 (by omega)), e1, if_pos (nI_lt hj (by omega)), ofNat_nI, if_pos (nI_lt (by omega) (by omega)), nI_clamp (by omega), xfill_s, nI_1])
  simp only [xfill_0] at hl
  refine hl.trans ?_
  have e1 : xfill (xw mi a 1 (nI k)) (a + 1) k v a 1 = nI k := by rw [xfill_ne (by omega), xw_eq, if_pos rfl]
  rw [s92_19 hS (fun _ h2 => xin_of (nI_nneg (by omega)) h2 (by omega)), e1, if_neg (nI_nlt (by omega) (by omega))]
theorem stR_begin {k : Nat} {v : Int32} : stR (xfill (xw mi a 1 (nI k)) (a + 1) k v) a (some (List.replicate k v)) := by
  refine ⟨by rw [xfill_ne (by omega), xw_eq, if_pos rfl, List.length_replicate], fun j hj => ?_⟩
  rw [List.length_replicate] at hj
  simp [xfill, hj, List.getD_eq_getElem?_getD, List.getElem?_replicate]
theorem c93 {xs : List Int32} {v : Int32} (hS : isStrip L a n) (h : stR mi a (some xs)) (hn : n < 1000) (hx : xs.length < n) : Xm 93 [.ref a, .int v] (SH L, mi, ml, MR) d Q = Q none (SH L, xw (xw mi (a + 1) xs.length v) a 1 (nI (xs.length + 1)), ml, MR) := by
  rw [s93 hS (fun h1 h2 => xin_of h1 h2 (by omega)), h.1, if_neg (nI_nneg (by omega)), ofNat_nI, if_pos (nI_lt hx (by omega)), nI_clamp (by omega), xw_ne (by omega), h.1, nI_1]
theorem stR_add {xs : List Int32} {v : Int32} (h : stR mi a (some xs)) : stR (xw (xw mi (a + 1) xs.length v) a 1 (nI (xs.length + 1))) a (some (xs ++ [v])) := by
  refine ⟨by rw [xw_eq, if_pos rfl]; simp, fun j hj => ?_⟩
  simp only [List.length_append, List.length_singleton] at hj
  rw [xw_ne (by omega), xw_eq, List.getD_eq_getElem?_getD]
  by_cases h1 : j = xs.length
  · subst h1; simp
  · rw [if_neg h1, List.getElem?_append_left (by omega), h.2 j (by omega), List.getD_eq_getElem?_getD]
theorem c95 (hS : isStrip L a n) : Xm 95 [.ref a] (SH L, mi, ml, MR) d Q = Q none (SH L, xw mi a 1 (-1), ml, MR) := s95 hS
theorem stR_lose : stR (xw mi a 1 (-1)) a none := by show xw mi a 1 (-1) a 1 = -1; rw [xw_eq, if_pos rfl]
end STRIP
