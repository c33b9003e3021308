/-! longs -/
def nL (n : Nat) : Int64 := Int64.ofNat n
theorem nL_toInt {n : Nat} (h : n < 2 ^ 63) : (nL n).toInt = n := Int64.toInt_ofNat_of_lt h
theorem nL_mul (a b : Nat) : nL a * nL b = nL (a * b) := (Int64.ofNat_mul a b).symm
theorem nL_add (a b : Nat) : nL a + nL b = nL (a + b) := (Int64.ofNat_add a b).symm
theorem nL_sub {a b : Nat} (h : b ≤ a) : nL a - nL b = nL (a - b) := (Int64.ofNat_sub a b h).symm
theorem nL_I (n : Nat) : (nL n).toInt32 = nI n := Int64.toInt32_ofNat'
theorem nI_L {n : Nat} (h : n < 2 ^ 31) : (nI n).toInt64 = nL n := Int32.toInt64_ofNat' (by show (n : Int) ≤ 2147483647; omega)
theorem nL_inj {a b : Nat} (ha : a < 2 ^ 63) (hb : b < 2 ^ 63) (h : nL a = nL b) : a = b := by
  have := congrArg Int64.toInt h
  rw [nL_toInt ha, nL_toInt hb] at this
  omega
theorem nL_div {a b : Nat} (ha : a < 2 ^ 63) (hb : b < 2 ^ 63) : nL a / nL b = nL (a / b) := by
  have hq : a / b ≤ a := Nat.div_le_self a b
  apply Int64.toInt_inj.mp
  rw [nL_toInt (by omega), Int64.toInt_div, nL_toInt ha, nL_toInt hb]
  rw [show (a : Int).tdiv (b : Int) = ((a / b : Nat) : Int) from rfl]
  have hlt : ((a / b : Nat) : Int) < 9223372036854775808 := by omega
  have hge : (0 : Int) ≤ ((a / b : Nat) : Int) := Int.natCast_nonneg _
  generalize ((a / b : Nat) : Int) = z at hlt hge ⊢
  rw [Int.bmod_def, Int.emod_eq_of_lt hge (by show z < 18446744073709551616; omega), if_pos (by show z < 9223372036854775808; exact hlt)]
theorem nL_rem {a b : Nat} (ha : a < 2 ^ 63) (hb : b < 2 ^ 63) : nL a - nL a / nL b * nL b = nL (a % b) := by
  have h1 : a / b * b ≤ a := Nat.div_mul_le_self a b
  rw [nL_div ha hb, nL_mul, nL_sub h1]
  congr 1
  have := Nat.div_add_mod a b
  rw [Nat.mul_comm] at this
  omega
theorem nL_ne0 {n : Nat} (h : 0 < n) (h2 : n < 2 ^ 63) : ¬ nL n = 0 := fun z => by
  have := nL_inj (b := 0) h2 (by omega) z
  omega
theorem lg_eq0 {r : Nat} (hr : r < 2 ^ 63) : lg_cmp (nL r) 0 = 0 ↔ r = 0 := by
  constructor
  · intro h
    have h1 := (lg_lt (nL r) 0)
    have h2 := (lg_gt (nL r) 0)
    rw [h] at h1 h2
    have h3 : ¬ nL r < 0 := fun z => absurd (h1.mpr z) (by decide)
    have h4 : ¬ 0 < nL r := fun z => absurd (h2.mpr z) (by decide)
    rw [Int64.lt_iff_toInt_lt, nL_toInt hr] at h3 h4
    have h0 : (0 : Int64).toInt = 0 := rfl
    omega
  · intro h
    subst h
    rfl
/-- the next lot -/
def lotN (v : Nat) : Nat := 48271 * v % 2147483647
theorem lotN_lt (v : Nat) : lotN v < 2147483647 := Nat.mod_lt _ (by omega)
theorem lot_L {v : Nat} (hv : v < 2147483647) : (48271 * nL v) - (48271 * nL v) / 2147483647 * 2147483647 = nL (lotN v) := by
  rw [show (48271 : Int64) = nL 48271 from rfl, show (2147483647 : Int64) = nL 2147483647 from rfl, nL_mul, nL_rem (by omega) (by omega)]
  rfl
theorem lot_i {v n : Nat} (hv : v < 2147483647) (hn0 : 0 < n) (hn : n < 1000) : ((nL v / 8) - (nL v / 8) / (nI n).toInt64 * (nI n).toInt64).toInt32 = nI (v / 8 % n) := by
  have h8 : nL v / 8 = nL (v / 8) := nL_div (b := 8) (by omega) (by omega)
  rw [h8, nI_L (by omega), nL_rem (by omega) (by omega), nL_I]
theorem lot_3 {v : Nat} (hv : v < 2147483647) : lg_cmp (nL v - nL v / 3 * 3) 0 = 0 ↔ v % 3 = 0 := by
  rw [show nL v - nL v / 3 * 3 = nL (v % 3) from nL_rem (b := 3) (by omega) (by omega)]
  exact lg_eq0 (by omega)
/-- the deed that a lot brings -/
def lotC (P : pP) (D : List Nat) (v : Nat) : Nat :=
  if mayP (pl P (v / 8 % P.length)) (gW (rep P D) (v / 8 % P.length)) (gP (rep P D) (v / 8 % P.length)) (gE (rep P D) (v / 8 % P.length)) (gD (rep P D)) then 10 * 2 + v / 8 % P.length
  else if (gE (rep P D) (v / 8 % P.length) = false ∧ gW (rep P D) (v / 8 % P.length) < 9) ∧ v % 3 = 0 then 10 * 1 + v / 8 % P.length
  else 10 * 0 + 0
def lotsN (P : pP) : Nat → Nat → List Nat → Nat → List Nat × Nat
  | 0, _, D, s => (D, s)
  | n + 1, v, D, s => lotsN P n (lotN v) (D ++ [lotC P D (lotN v)]) (if lotC P D (lotN v) / 10 = 2 then s + gL (rep P (D ++ [lotC P D (lotN v)])) else s)
theorem lotC_ok {P : pP} {D : List Nat} {v : Nat} (h0 : 0 < P.length) (hP : P.length ≤ 6) : allowed P (rep P D) (lotC P D v) := by
  have hm : v / 8 % P.length < P.length := Nat.mod_lt _ h0
  generalize hi : v / 8 % P.length = i at hm
  unfold lotC
  rw [hi]
  split
  · rename_i ha
    have e10 : (10 * 2 + i) % 10 = i := by omega
    exact ⟨by omega, by omega, by omega, fun _ => by rw [e10]; exact openN_pos ha, by omega⟩
  split
  · rename_i ha
    have e10 : (10 * 1 + i) % 10 = i := by omega
    exact ⟨by omega, by omega, fun _ => by rw [e10]; exact ⟨ha.1.2, ha.1.1⟩, by omega, by omega⟩
  · exact ⟨by omega, by omega, by omega, by omega, by omega⟩
theorem lotsN_ok {P : pP} {K : Nat → Option (List Nat)} (h0 : 0 < P.length) : ∀ n v D s, ok P D K → D.length + n ≤ 40 → ok P (lotsN P n v D s).1 K := by
  intro n
  induction n with
  | zero => intro v D s h _; exact h
  | succ n ih =>
    intro v D s h hl
    exact ih _ _ _ ⟨h.1, okD_add h.2.1 (by omega) (lotC_ok h0 h.1.1), h.2.2⟩ (by rw [List.length_append, List.length_singleton]; omega)
