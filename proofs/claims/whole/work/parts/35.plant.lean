/-! kinds and plants -/
theorem nI_sub_toInt {a b : Nat} (ha : a < 2 ^ 30) (hb : b < 2 ^ 30) : (nI a - nI b).toInt = (a : Int) - b := by
  rw [Int32.toInt_sub, nI_toInt (by omega), nI_toInt (by omega), Int.bmod_def]
  show (if ((a : Int) - b) % 4294967296 < (4294967296 + 1) / 2 then ((a : Int) - b) % 4294967296 else ((a : Int) - b) % 4294967296 - 4294967296) = (a : Int) - b
  split <;> omega
theorem nI_sub_neg {a b : Nat} (ha : a < 2 ^ 30) (hb : b < 2 ^ 30) : nI a - nI b < 0 ↔ a < b := by
  rw [Int32.lt_iff_toInt_lt, nI_sub_toInt ha hb]
  have h0 : (0 : Int32).toInt = 0 := rfl
  omega
theorem nI_sub_pos {a b : Nat} (ha : a < 2 ^ 30) (hb : b < 2 ^ 30) : 0 < nI a - nI b ↔ b < a := by
  rw [Int32.lt_iff_toInt_lt, nI_sub_toInt ha hb]
  have h0 : (0 : Int32).toInt = 0 := rfl
  omega
theorem nI_tsub {a b : Nat} (ha : a < 2 ^ 30) (hb : b < 2 ^ 30) : (if (0 : Int32) < nI a - nI b then nI a - nI b else 0) = nI (a - b) := by
  by_cases h : b < a
  · rw [if_pos ((nI_sub_pos ha hb).mpr h), nI_sub (by omega)]
  · rw [if_neg (fun z => h ((nI_sub_pos ha hb).mp z)), show a - b = 0 by omega]
    rfl
theorem nI_pos_iff {a : Nat} (ha : a < 2 ^ 30) : (0 : Int32) < nI a ↔ 0 < a := by
  have := nI_sub_pos (b := 0) ha (by omega)
  rwa [nI_sub (by omega)] at this
theorem nI_min9 {q : Nat} (h : q < 2 ^ 31) : (if nI q < 9 then nI q else 9) = nI (min 9 q) := by
  by_cases h9 : q < 9
  · rw [if_pos (show nI q < 9 from nI_lt (b := 9) h9 (by omega)), Nat.min_eq_right (by omega)]
  · rw [if_neg (show ¬ nI q < 9 from nI_nlt (b := 9) (by omega) h), Nat.min_eq_left (by omega)]
    rfl
abbrev ofN (k b : Nat) : Prop := k = b ∨ (k = 4 ∧ b = 1) ∨ (k = 5 ∧ b = 2)
def plR (mi : Nat → Nat → Int32) (a : Nat) (p : Nat × Nat × Nat × Nat) (w q : Nat) (e : Bool) : Prop := mi a 0 = nI p.1 ∧ mi a 1 = nI p.2.1 ∧ mi a 2 = nI p.2.2.1 ∧ mi a 3 = nI p.2.2.2 ∧ mi a 4 = nI w ∧ mi a 5 = nI q ∧ mi a 6 = bI (e = true)
def mpR (mi : Nat → Nat → Int32) (i : Nat) (p : Nat × Nat × Nat × Nat) : Prop := mi 73 i = nI p.1 ∧ mi 74 i = nI p.2.1 ∧ mi 75 i = nI p.2.2.1 ∧ mi 76 i = nI p.2.2.2
def okp (p : Nat × Nat × Nat × Nat) : Prop := p.1 < 6 ∧ p.2.1 < 10 ∧ 1 ≤ p.2.2.1 ∧ p.2.2.1 < 10 ∧ p.2.2.2 < 10
theorem beanN_le (a p : Nat) : beanN a p ≤ 9 := Nat.min_le_left _ _
theorem ripeN_le (k a p : Nat) : ripeN k a p ≤ 9 := by
  have := beanN_le a p
  unfold ripeN
  repeat' split
  all_goals omega
theorem wordN_lt (k s p : Nat) : wordN k s p < 10 := by
  unfold wordN
  repeat' split
  all_goals exact Nat.mod_lt _ (by omega)
section PLANT
variable {L : Nat} {mi : Nat → Nat → Int32} {ml : Nat → Nat → Int64} {d : Nat} {Q : Option Value → xM → Prop} {a i : Nat} {p : Nat × Nat × Nat × Nat} {w q day : Nat} {e : Bool}
theorem word_if {k s p : Nat} {A : Int32 → Prop} (hk : k < 6) (hs : s < 1000) (hp : p < 1000) : (if nI k = 1 then A ((nI s + (3 * nI p)) - (nI s + (3 * nI p)) / 10 * 10) else if nI k = 2 then A ((nI s + nI p) - (nI s + nI p) / 10 * 10) else if nI k = 3 then A ((nI s + (2 * nI p)) - (nI s + (2 * nI p)) / 10 * 10) else if nI k = 4 then A (((nI s + (3 * nI p)) + 1) - ((nI s + (3 * nI p)) + 1) / 10 * 10) else if nI k = 5 then A ((nI s + (nI p / 2)) - (nI s + (nI p / 2)) / 10 * 10) else A ((nI s + nI p) - (nI s + nI p) / 10 * 10)) = A (nI (wordN k s p)) := by
  have e3 : nI s + 3 * nI p = nI (s + 3 * p) := by rw [show (3 : Int32) = nI 3 from rfl, nI_mul, nI_add]
  have e2 : nI s + 2 * nI p = nI (s + 2 * p) := by rw [show (2 : Int32) = nI 2 from rfl, nI_mul, nI_add]
  have e4 : nI (s + 3 * p) + 1 = nI (s + 3 * p + 1) := nI_1 _
  have e5 : nI p / 2 = nI (p / 2) := nI_div (b := 2) (by omega) (by omega)
  have r : ∀ n, n < 2 ^ 31 → nI n - nI n / 10 * 10 = nI (n % 10) := fun n h => nI_rem (b := 10) h (by omega)
  rw [e3, e2, e4, e5, nI_add, nI_add, r _ (by omega), r _ (by omega), r _ (by omega), r _ (by omega), r _ (by omega)]
  rcases (by omega : k = 0 ∨ k = 1 ∨ k = 2 ∨ k = 3 ∨ k = 4 ∨ k = 5) with rfl | rfl | rfl | rfl | rfl | rfl <;> rfl
theorem c48 {k s p : Nat} (hk : k < 6) (hs : s < 1000) (hp : p < 1000) : Xm 48 [.int (nI k), .int (nI s), .int (nI p)] (SH L, mi, ml, MR) d Q = Q (some (.int (nI (wordN k s p)))) (SH L, mi, ml, MR) := s48.trans (word_if (A := fun z => Q (some (.int z)) (SH L, mi, ml, MR)) hk hs hp)
theorem c179 {k s p : Nat} (hk : k < 6) (hs : s < 1000) (hp : p < 1000) : Xm 179 [.int (nI k), .int (nI s), .int (nI p)] (SH L, mi, ml, MR) d Q = Q (some (.int (nI (wordN k s p)))) (SH L, mi, ml, MR) := s179.trans (word_if (A := fun z => Q (some (.int z)) (SH L, mi, ml, MR)) hk hs hp)
theorem c45 {k b : Nat} (hk : k < 6) (hb : 0 < b) (hb2 : b < 6) : Xm 45 [.int (nI k), .int (nI b)] (SH L, mi, ml, MR) d Q = Q (some (.int (bI (ofN k b)))) (SH L, mi, ml, MR) := by
  rw [s45]
  rcases (by omega : k = 0 ∨ k = 1 ∨ k = 2 ∨ k = 3 ∨ k = 4 ∨ k = 5) with rfl | rfl | rfl | rfl | rfl | rfl <;> rcases (by omega : b = 1 ∨ b = 2 ∨ b = 3 ∨ b = 4 ∨ b = 5) with rfl | rfl | rfl | rfl | rfl <;> rfl
theorem c175 {k b : Nat} (hk : k < 6) (hb : 0 < b) (hb2 : b < 6) : Xm 175 [.int (nI k), .int (nI b)] (SH L, mi, ml, MR) d Q = Q (some (.int (bI (ofN k b)))) (SH L, mi, ml, MR) := by
  rw [s175]
  rcases (by omega : k = 0 ∨ k = 1 ∨ k = 2 ∨ k = 3 ∨ k = 4 ∨ k = 5) with rfl | rfl | rfl | rfl | rfl | rfl <;> rcases (by omega : b = 1 ∨ b = 2 ∨ b = 3 ∨ b = 4 ∨ b = 5) with rfl | rfl | rfl | rfl | rfl <;> rfl
theorem c46 {age pace : Nat} (ha : age < 1000) (hp : 0 < pace) (hp2 : pace < 1000) : Xm 46 [.int (nI age), .int (nI pace)] (SH L, mi, ml, MR) d Q = Q (some (.int (nI (beanN age pace)))) (SH L, mi, ml, MR) := by
  rw [s46 (fun _ _ => nI_ne0 hp (by omega))]
  by_cases h : 0 < age
  · have := Nat.div_le_self age pace
    rw [if_pos ((nI_pos_iff (by omega)).mpr h), if_pos ((nI_pos_iff (by omega)).mpr hp), nI_div (by omega) (by omega), nI_min9 (by omega)]
    rfl
  · have h0 : age = 0 := by omega
    subst h0
    rw [if_neg (by decide)]
    unfold beanN
    rw [Nat.zero_div]
    rfl
theorem c174 {n : Nat} (h : n < 2 ^ 31) : Xm 174 [.int (nI n)] (SH L, mi, ml, MR) d Q = Q (some (.int (nI (min 9 n)))) (SH L, mi, ml, MR) := by
  rw [s174]
  by_cases h9 : 9 < n
  · rw [if_pos (show 9 < nI n from nI_lt (a := 9) h9 (by omega)), Nat.min_eq_left (by omega)]
    rfl
  · rw [if_neg (show ¬ 9 < nI n from nI_nlt (a := 9) (by omega) (by omega)), Nat.min_eq_right (by omega)]
theorem c45_1 {k : Nat} (hk : k < 6) : Xm 45 [.int (nI k), .int 1] (SH L, mi, ml, MR) d Q = Q (some (.int (bI (ofN k 1)))) (SH L, mi, ml, MR) := c45 (b := 1) hk (by omega) (by omega)
theorem c45_2 {k : Nat} (hk : k < 6) : Xm 45 [.int (nI k), .int 2] (SH L, mi, ml, MR) d Q = Q (some (.int (bI (ofN k 2)))) (SH L, mi, ml, MR) := c45 (b := 2) hk (by omega) (by omega)
theorem c175_1 {k : Nat} (hk : k < 6) : Xm 175 [.int (nI k), .int 1] (SH L, mi, ml, MR) d Q = Q (some (.int (bI (ofN k 1)))) (SH L, mi, ml, MR) := c175 (b := 1) hk (by omega) (by omega)
theorem c175_2 {k : Nat} (hk : k < 6) : Xm 175 [.int (nI k), .int 2] (SH L, mi, ml, MR) d Q = Q (some (.int (bI (ofN k 2)))) (SH L, mi, ml, MR) := c175 (b := 2) hk (by omega) (by omega)
theorem ofN_1 {k : Nat} (h : k = 1 ∨ k = 4) : ofN k 1 := by unfold ofN; omega
theorem ofN_1' {k : Nat} (h : ¬ (k = 1 ∨ k = 4)) : ¬ ofN k 1 := by unfold ofN; omega
theorem ofN_2 {k : Nat} (h : k = 2 ∨ k = 5) : ofN k 2 := by unfold ofN; omega
theorem ofN_2' {k : Nat} (h : ¬ (k = 2 ∨ k = 5)) : ¬ ofN k 2 := by unfold ofN; omega
theorem c47 {k age pace : Nat} (hk : k < 6) (ha : age < 1000) (hp : 0 < pace) (hp2 : pace < 1000) : Xm 47 [.int (nI k), .int (nI age), .int (nI pace)] (SH L, mi, ml, MR) (d + 1) Q = Q (some (.int (nI (ripeN k age pace)))) (SH L, mi, ml, MR) := by
  have hb := beanN_le age pace
  rw [s47, c46 ha hp hp2, ret1, s47_5, c45_1 hk, ret1, s47_11]
  unfold ripeN
  by_cases h1 : k = 1 ∨ k = 4
  · rw [bI_t (ofN_1 h1), if_neg i1_ne0, if_pos h1]
    by_cases h0 : age = 0
    · subst h0
      rw [if_neg (by decide), if_pos rfl]
      rfl
    · rw [if_pos ((nI_pos_iff (by omega)).mpr (by omega)), if_neg h0, nI_1, nI_min9 (by omega)]
  · rw [bI_f (ofN_1' h1), if_pos rfl, if_neg h1, c45_2 hk, ret1, s47_36]
    by_cases h2 : k = 2 ∨ k = 5
    · rw [bI_t (ofN_2 h2), if_neg i1_ne0, if_pos h2, show (2 : Int32) = nI 2 from rfl, nI_div (by omega) (by omega)]
    · rw [bI_f (ofN_2' h2), if_pos rfl, if_neg h2]
theorem c52 (hS : (SH L)[a]? = some (4, 7)) (h : plR mi a p w q e) (hp : okp p) (hd : day < 500) (hw : w < 100) : Xm 52 [.ref a, .int (nI day)] (SH L, mi, ml, MR) d Q = Q (some (.int (nI (day + w - p.2.1)))) (SH L, mi, ml, MR) := by
  have := hp.2.1
  rw [s52 hS, h.2.2.2.2.1, h.2.1, nI_add, nI_tsub (by omega) (by omega)]
theorem c53 {pod : Nat} (hS : (SH L)[a]? = some (4, 7)) (h : plR mi a p w q e) (hp : okp p) (hd : pod < 1000) : Xm 53 [.ref a, .int (nI pod)] (SH L, mi, ml, MR) (d + 1) Q = Q (some (.int (nI (wordP p pod)))) (SH L, mi, ml, MR) := by
  have := hp.2.2.2.2
  rw [s53 hS, h.1, h.2.2.2.1, c48 hp.1 (by omega) hd, ret1, s53_12 hS]
  rfl
theorem c54 (hS : (SH L)[a]? = some (4, 7)) (h : plR mi a p w q e) (hp : okp p) (hd : day < 500) (hw : w < 100) : Xm 54 [.ref a, .int (nI day)] (SH L, mi, ml, MR) (d + 2) Q = Q (some (.int (nI (ripeP p w day)))) (SH L, mi, ml, MR) := by
  have h1 := hp.2.1
  have h2 := hp.2.2.1
  have h3 := hp.2.2.2.1
  rw [s54 hS, c52 hS h hp hd hw, ret1, s54_9 hS, h.1, h.2.2.1, c47 hp.1 (by omega) (by omega) (by omega), ret1, s54_16 hS]
  rfl
theorem c55 (hS : (SH L)[a]? = some (4, 7)) (h : plR mi a p w q e) (hp : okp p) (hd : day < 500) : Xm 55 [.ref a, .int (nI day)] (SH L, mi, ml, MR) d Q = Q (some (.int (bI (¬ (p.1 = 3 ∧ day % 2 = 1))))) (SH L, mi, ml, MR) := by
  have h1 := hp.1
  rw [s55 hS, h.1, show (nI day - nI day / 2 * 2) = nI (day % 2) from nI_rem (b := 2) (by omega) (by omega)]
  by_cases h3 : p.1 = 3
  · rw [h3, if_pos (by decide)]
    rcases (by omega : day % 2 = 0 ∨ day % 2 = 1) with h2 | h2
    · rw [h2, if_pos (by decide), bI_t (by omega)]
    · rw [h2, if_neg (by decide), bI_f (by omega)]
  · rw [if_neg (show ¬ nI p.1 = 3 from fun z => h3 (nI_inj (b := 3) (by omega) (by omega) z)), bI_t (by omega)]
/-! the model's -/
theorem c176 (hi : i < 6) (h : mpR mi i p) (hp : okp p) (hd : day < 500) (hw : w < 100) : Xm 176 [.ref 68, .int (nI i), .int (nI w), .int (nI day)] (SH L, mi, ml, MR) d Q = Q (some (.int (nI (day + w - p.2.1)))) (SH L, mi, ml, MR) := by
  have := hp.2.1
  rw [s176 (xin_nI hi (by omega)), nI_clamp (by omega), h.2.1, nI_add]
  by_cases hl : day + w < p.2.1
  · rw [if_pos ((nI_sub_neg (by omega) (by omega)).mpr hl), show day + w - p.2.1 = 0 by omega]
    rfl
  · rw [if_neg (fun z => hl ((nI_sub_neg (by omega) (by omega)).mp z)), nI_sub (by omega)]
theorem c177 (hi : i < 6) (h : mpR mi i p) (hp : okp p) (hd : day < 500) (hw : w < 100) : Xm 177 [.ref 68, .int (nI i), .int (nI w), .int (nI day)] (SH L, mi, ml, MR) (d + 1) Q = Q (some (.int (nI (ripeP p w day)))) (SH L, mi, ml, MR) := by
  obtain ⟨k1, k2, k3, k4, k5⟩ := hp
  have hp : okp p := ⟨k1, k2, k3, k4, k5⟩
  obtain ⟨h1, h2, h3, h4⟩ := id h
  have hb := beanN_le (day + w - p.2.1) p.2.2.1
  have hq := Nat.div_le_self (day + w - p.2.1) p.2.2.1
  rw [s177, c176 hi h hp hd hw, ret1, s177_7 (xin_nI hi (by omega)) (by rw [nI_clamp (by omega), h3]; exact nI_ne0 (by omega) (by omega)), nI_clamp (by omega), h3, nI_div (by omega) (by omega), c174 (by omega), ret1, s177_21 (xin_nI hi (by omega)), nI_clamp (by omega), h1]
  rw [c175_1 k1, ret1, s177_33 (fun _ => xin_nI hi (by omega)), nI_clamp (by omega), h1]
  change (if _ then _ else (if _ then Xm 174 [.int (nI (beanN (day + w - p.2.1) p.2.2.1) + 1)] _ _ _ else Xm 174 [.int (nI (beanN (day + w - p.2.1) p.2.2.1))] _ _ _)) = Q (some (.int (nI (ripeN p.1 (day + w - p.2.1) p.2.2.1)))) _
  unfold ripeN
  by_cases e1 : p.1 = 1 ∨ p.1 = 4
  · rw [bI_t (ofN_1 e1), if_neg i1_ne0, if_pos e1]
    by_cases h0 : day + w - p.2.1 = 0
    · rw [h0, if_neg (by decide), if_pos rfl, c174 (by have := beanN_le 0 p.2.2.1; omega), ret1, s177_53]
      unfold beanN
      rw [Nat.zero_div]
      rfl
    · rw [if_pos ((nI_pos_iff (by omega)).mpr (by omega)), if_neg h0, nI_1, c174 (by omega), ret1, s177_53]
  · rw [bI_f (ofN_1' e1), if_pos rfl, if_neg e1]
    rw [c175_2 k1, ret1, s177_64]
    by_cases e2 : p.1 = 2 ∨ p.1 = 5
    · rw [bI_t (ofN_2 e2), if_neg i1_ne0, if_pos e2, show (2 : Int32) = nI 2 from rfl, nI_div (by unfold beanN at hb; omega) (by omega)]
      rfl
    · rw [bI_f (ofN_2' e2), if_pos rfl, if_neg e2]
      rfl
theorem c180 {pod : Nat} (hi : i < 6) (h : mpR mi i p) (hp : okp p) (hd : pod < 1000) : Xm 180 [.ref 68, .int (nI i), .int (nI pod)] (SH L, mi, ml, MR) (d + 1) Q = Q (some (.int (nI (wordP p pod)))) (SH L, mi, ml, MR) := by
  have := hp.2.2.2.2
  rw [s180 (xin_nI hi (by omega)) (xin_nI hi (by omega)), nI_clamp (by omega), h.1, h.2.2.2, c179 hp.1 (by omega) hd, ret1, s180_16]
  rfl
theorem mask_has (f : Nat → Bool) {i : Nat} (hi : i < 6) : ((nI (maskN f 6) >>> (nI i &&& 31)) &&& 1 = 1) ↔ f i = true := by
  have key : ∀ b0 b1 b2 b3 b4 b5 : Bool, ∀ i : Fin 6, ((nI (maskN (fun n => [b0, b1, b2, b3, b4, b5].getD n false) 6) >>> (nI i.val &&& 31)) &&& 1 = 1) ↔ [b0, b1, b2, b3, b4, b5].getD i.val false = true := by decide +kernel
  have k := key (f 0) (f 1) (f 2) (f 3) (f 4) (f 5) ⟨i, hi⟩
  have e : maskN (fun n => [f 0, f 1, f 2, f 3, f 4, f 5].getD n false) 6 = maskN f 6 := rfl
  rw [e] at k
  rw [k]
  rcases (by omega : i = 0 ∨ i = 1 ∨ i = 2 ∨ i = 3 ∨ i = 4 ∨ i = 5) with rfl | rfl | rfl | rfl | rfl | rfl <;> rfl
theorem c150 {f : Nat → Bool} (hi : i < 6) : Xm 150 [.int (nI (maskN f 6)), .int (nI i)] (SH L, mi, ml, MR) d Q = Q (some (.int (bI (f i = true)))) (SH L, mi, ml, MR) := by
  rw [s150]
  by_cases h : f i = true
  · rw [if_pos ((mask_has f hi).mpr h), bI_t h]
  · rw [if_neg (fun z => h ((mask_has f hi).mp z)), bI_f h]
end PLANT
