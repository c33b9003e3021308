/-! copy -/
def cpL (ys : List Int32) (i : Nat) (xs : List Int32) (j n : Nat) : List Int32 := (List.range xs.length).map fun k => if j ≤ k ∧ k < j + n then ys.getD (i + (k - j)) 0 else xs.getD k 0
theorem cpL_len (ys : List Int32) (i : Nat) (xs : List Int32) (j n : Nat) : (cpL ys i xs j n).length = xs.length := by simp [cpL]
theorem cpL_at (ys : List Int32) (i : Nat) (xs : List Int32) (j n : Nat) {k : Nat} (h : k < xs.length) : (cpL ys i xs j n).getD k 0 = if j ≤ k ∧ k < j + n then ys.getD (i + (k - j)) 0 else xs.getD k 0 := by
  rw [List.getD_eq_getElem?_getD]
  simp only [cpL, List.getElem?_map, List.getElem?_range h, Option.map_some, Option.getD_some]
section HOLDS
variable {L : Nat} {mi : Nat → Nat → Int32} {ml : Nat → Nat → Int64} {d : Nat} {Q : Option Value → xM → Prop} {a n : Nat}
/-- holds, of n places from x on -/
theorem c89 {xs : List Int32} {x : Int32} {m : Nat} (hS : isStrip L a n) (h : stR mi a (some xs)) (hx : xs.length < 1000) (hm : m < 2 ^ 31) : Xm 89 [.ref a, .int x, .int (nI m)] (SH L, mi, ml, MR) d Q = Q (some (.int (bI (0 ≤ x.toInt ∧ x.toInt + m ≤ xs.length)))) (SH L, mi, ml, MR) := by
  rw [s89 hS, if_neg (nI_nneg hm), h.1]
  have h0 : (0 : Int32).toInt = 0 := rfl
  by_cases h1 : x < 0
  · rw [if_pos h1, bI_f]
    rw [Int32.lt_iff_toInt_lt] at h1
    omega
  · rw [if_neg h1]
    by_cases h2 : xs.length < m
    · rw [if_pos (nI_lt h2 hm), bI_f]
      rw [Int32.lt_iff_toInt_lt] at h1
      omega
    · rw [if_neg (nI_nlt (by omega) (by omega)), nI_sub (by omega)]
      by_cases h3 : nI (xs.length - m) < x
      · rw [if_pos h3, bI_f]
        rw [Int32.lt_iff_toInt_lt, nI_toInt (by omega)] at h3
        omega
      · rw [if_neg h3, bI_t]
        rw [Int32.lt_iff_toInt_lt] at h1
        rw [Int32.lt_iff_toInt_lt, nI_toInt (by omega)] at h3
        omega
/-- bring, where both hold it -/
theorem c96 {b nb i j m : Nat} {xs ys : List Int32} (hS : isStrip L a n) (hSb : isStrip L b nb) (h : stR mi a (some xs)) (hb : stR mi b (some ys)) (hn : n < 1000) (hnb : nb < 1000) (hx : xs.length ≤ n) (hy : ys.length ≤ nb) (hi : i + m ≤ ys.length) (hj : j + m ≤ xs.length) : Xm 96 [.ref a, .ref b, .int (nI i), .int (nI j), .int (nI m)] (SH L, mi, ml, MR) (d + 1) Q = Q none (SH L, xcpy mi (b + 1) i (a + 1) j m, ml, MR) := by
  rw [s96 hS hSb, c89 hSb hb (by omega) (by omega), ret1, bI_t (by rw [nI_toInt (by omega)]; omega), s96_11 hS hSb, if_neg i1_ne0, c89 hS h (by omega) (by omega), ret1, bI_t (by rw [nI_toInt (by omega)]; omega)]
  rw [s96_21 hS hSb (fun _ => ⟨nI_nneg (by omega), nI_nneg (by omega), nI_nneg (by omega), by rw [nI_clamp (by omega), nI_clamp (by omega)]; omega, by rw [nI_clamp (by omega), nI_clamp (by omega)]; omega, rfl⟩), if_neg i1_ne0, nI_clamp (by omega), nI_clamp (by omega), nI_clamp (by omega)]
theorem stR_bring {b i j m : Nat} {xs ys : List Int32} (h : stR mi a (some xs)) (hb : stR mi b (some ys)) (hi : i + m ≤ ys.length) (hj : j + m ≤ xs.length) : stR (xcpy mi (b + 1) i (a + 1) j m) a (some (cpL ys i xs j m)) := by
  refine ⟨by simp only [xcpy]; rw [if_neg (by omega), h.1, cpL_len], fun k hk => ?_⟩
  rw [cpL_len] at hk
  rw [cpL_at _ _ _ _ _ hk]
  simp only [xcpy, true_and]
  by_cases hc : j ≤ k ∧ k < j + m
  · rw [if_pos hc, if_pos hc, hb.2 _ (by omega)]
  · rw [if_neg hc, if_neg hc, h.2 k hk]
end HOLDS
theorem wide_sum (x y : Int32) : (x.toInt64 + y.toInt64).toInt = x.toInt + y.toInt := by
  have h1 := x.toInt_lt
  have h2 := y.toInt_lt
  have h3 := x.le_toInt
  have h4 := y.le_toInt
  rw [Int64.toInt_add, Int32.toInt_toInt64, Int32.toInt_toInt64]
  rw [Int.bmod_def]
  split
  · rename_i h
    have : (x.toInt + y.toInt) % ↑(2 ^ 64) = (x.toInt + y.toInt) % 18446744073709551616 := rfl
    rw [this] at h ⊢
    have e : ((18446744073709551616 : Int) + 1) / 2 = 9223372036854775808 := by decide
    have h' : (x.toInt + y.toInt) % 18446744073709551616 < 9223372036854775808 := by
      have := h
      simpa using this
    omega
  · rename_i h
    have : (x.toInt + y.toInt) % ↑(2 ^ 64) = (x.toInt + y.toInt) % 18446744073709551616 := rfl
    rw [this] at h ⊢
    have h' : ¬ (x.toInt + y.toInt) % 18446744073709551616 < 9223372036854775808 := by
      intro z
      exact h (by simpa using z)
    show (x.toInt + y.toInt) % 18446744073709551616 - 18446744073709551616 = _
    omega
theorem wide_gt (x : Int32) {m l : Nat} (hm : m < 2 ^ 31) (hl : l < 2 ^ 31) : (0 : Int32) < lg_cmp (x.toInt64 + (nI m).toInt64) (nI l).toInt64 ↔ (l : Int) < x.toInt + m := by
  rw [lg_gt, Int64.lt_iff_toInt_lt, wide_sum, Int32.toInt_toInt64, nI_toInt hm, nI_toInt hl]
/-- the model's loop, forth or back -/
theorem m161_loop {L : Nat} {mi : Nat → Nat → Int32} {ml : Nat → Nat → Int64} {d : Nat} {Q : Option Value → xM → Prop} {r i t j n : Nat} (hr : r < 6) (ht : t < 6) (hi : i + n ≤ 40) (hj : j + n ≤ 40) : X 161 104 [.ref 68, .int (nI r), .int (nI i), .int (nI t), .int (nI j), .int (nI n), .int (nI 0), xmk] [] (SH L, mi, ml, MR) d Q = Q (some (.int 1)) (SH L, (fun c q => if c = 70 ∧ 40 * t + j ≤ q ∧ q < 40 * t + j + n then mi 70 (40 * r + i + (q - (40 * t + j))) else mi c q), ml, MR) := by
  have ad : ∀ a b c, (40 : Int32) * nI a + nI b + nI c = nI (40 * a + b + c) := fun a b c => by rw [show (40 : Int32) = nI 40 from rfl, nI_mul, nI_add, nI_add]
  have hin : ∀ a b c, a < 6 → b + c < 40 → xin (nI (40 * a + b + c)) 240 = true := fun a b c h1 h2 => xin_nI (by omega) (by omega)
  by_cases hij : i < j
  · have pr : ∀ k, k < n → (nI n - 1) - nI k = nI (n - 1 - k) := fun k hk => by rw [show (1 : Int32) = nI 1 from rfl, nI_sub (by omega), nI_sub (by omega)]
    have hl := X_loop (mid := 161) (pc := 104) (d := d) (Q := Q) (fun k => [.ref 68, .int (nI r), .int (nI i), .int (nI t), .int (nI j), .int (nI n), .int (nI k), if k = 0 then xmk else .int (nI (n - 1 - (k - 1)))]) (fun k => (SH L, (fun c q => if c = 70 ∧ 40 * t + j + (n - k) ≤ q ∧ q < 40 * t + j + n then mi 70 (40 * r + i + (q - (40 * t + j))) else mi c q), ml, MR)) n (fun k hk => by
      have body : ∀ v : Value, (v = xmk ∨ ∃ z, v = .int z) → X 161 104 [.ref 68, .int (nI r), .int (nI i), .int (nI t), .int (nI j), .int (nI n), .int (nI k), v] [] (SH L, (fun c q => if c = 70 ∧ 40 * t + j + (n - k) ≤ q ∧ q < 40 * t + j + n then mi 70 (40 * r + i + (q - (40 * t + j))) else mi c q), ml, MR) d Q = X 161 104 [.ref 68, .int (nI r), .int (nI i), .int (nI t), .int (nI j), .int (nI n), .int (nI (k + 1)), .int (nI (n - 1 - k))] [] (SH L, (fun c q => if c = 70 ∧ 40 * t + j + (n - (k + 1)) ≤ q ∧ q < 40 * t + j + n then mi 70 (40 * r + i + (q - (40 * t + j))) else mi c q), ml, MR) d Q := by
        have key : (xw (fun c q => if c = 70 ∧ 40 * t + j + (n - k) ≤ q ∧ q < 40 * t + j + n then mi 70 (40 * r + i + (q - (40 * t + j))) else mi c q) 70 (40 * t + j + (n - 1 - k)) ((fun c q => if c = 70 ∧ 40 * t + j + (n - k) ≤ q ∧ q < 40 * t + j + n then mi 70 (40 * r + i + (q - (40 * t + j))) else mi c q) 70 (40 * r + i + (n - 1 - k)))) = (fun c q => if c = 70 ∧ 40 * t + j + (n - (k + 1)) ≤ q ∧ q < 40 * t + j + n then mi 70 (40 * r + i + (q - (40 * t + j))) else mi c q) := by
          funext c q
          simp only [xw]
          rw [if_neg (show ¬ (70 = 70 ∧ 40 * t + j + (n - k) ≤ 40 * r + i + (n - 1 - k) ∧ 40 * r + i + (n - 1 - k) < 40 * t + j + n) from fun z => by
            rcases Nat.lt_trichotomy r t with hh | hh | hh <;> omega)]
          by_cases z1 : c = 70
          · by_cases z2 : q = 40 * t + j + (n - 1 - k)
            · rw [if_pos ⟨z1, z2⟩, if_pos ⟨z1, by omega, by omega⟩]
              congr 1
              omega
            · rw [if_neg (fun z => z2 z.2)]
              by_cases z3 : 40 * t + j + (n - k) ≤ q ∧ q < 40 * t + j + n
              · rw [if_pos ⟨z1, z3⟩, if_pos ⟨z1, by omega, by omega⟩]
              · rw [if_neg (fun z => z3 z.2), if_neg (fun z => z3 (by omega))]
          · rw [if_neg (fun z => z1 z.1), if_neg (fun z => z1 z.1), if_neg (fun z => z1 z.1)]
        rintro v (rfl | ⟨z, rfl⟩)
        · rw [s161_104 (fun _ _ => by rw [pr k hk, ad]; exact hin _ _ _ hr (by omega)) (fun _ _ => by rw [pr k hk, ad]; exact hin _ _ _ ht (by omega)) (fun _ z => absurd (nI_lt hij (by omega)) z) (fun _ z => absurd (nI_lt hij (by omega)) z), if_pos (nI_lt hk (by omega)), if_pos (nI_lt hij (by omega)), pr k hk, ad, ad, nI_clamp (by omega), nI_clamp (by omega), nI_1, key]
        · rw [s161_104v2 (fun _ _ => by rw [pr k hk, ad]; exact hin _ _ _ hr (by omega)) (fun _ _ => by rw [pr k hk, ad]; exact hin _ _ _ ht (by omega)) (fun _ z => absurd (nI_lt hij (by omega)) z) (fun _ z => absurd (nI_lt hij (by omega)) z), if_pos (nI_lt hk (by omega)), if_pos (nI_lt hij (by omega)), pr k hk, ad, ad, nI_clamp (by omega), nI_clamp (by omega), nI_1, key]
      simp only [if_neg (Nat.succ_ne_zero k), Nat.add_sub_cancel]
      exact body _ (by split; exact Or.inl rfl; exact Or.inr ⟨_, rfl⟩))
    have e0 : (fun (c q : Nat) => if c = 70 ∧ 40 * t + j + (n - 0) ≤ q ∧ q < 40 * t + j + n then mi 70 (40 * r + i + (q - (40 * t + j))) else mi c q) = mi := by
      funext c q
      rw [if_neg (by omega)]
    simp only [e0, if_true] at hl
    rw [hl]
    have en : ∀ q, (40 * t + j + (n - n) ≤ q ∧ q < 40 * t + j + n) = (40 * t + j ≤ q ∧ q < 40 * t + j + n) := fun q => by rw [Nat.sub_self, Nat.add_zero]
    simp only [en]
    by_cases h0 : n = 0
    · rw [if_pos h0, s161_104 (fun z => absurd z (nI_nlt (by omega) (by omega))) (fun z => absurd z (nI_nlt (by omega) (by omega))) (fun z => absurd z (nI_nlt (by omega) (by omega))) (fun z => absurd z (nI_nlt (by omega) (by omega))), if_neg (nI_nlt (by omega) (by omega))]
    · rw [if_neg h0, s161_104v2 (fun z => absurd z (nI_nlt (by omega) (by omega))) (fun z => absurd z (nI_nlt (by omega) (by omega))) (fun z => absurd z (nI_nlt (by omega) (by omega))) (fun z => absurd z (nI_nlt (by omega) (by omega))), if_neg (nI_nlt (by omega) (by omega))]
  · have hnij : ¬ nI i < nI j := nI_nlt (by omega) (by omega)
    have hl := X_loop (mid := 161) (pc := 104) (d := d) (Q := Q) (fun k => [.ref 68, .int (nI r), .int (nI i), .int (nI t), .int (nI j), .int (nI n), .int (nI k), if k = 0 then xmk else .int (nI (k - 1))]) (fun k => (SH L, (fun c q => if c = 70 ∧ 40 * t + j ≤ q ∧ q < 40 * t + j + k then mi 70 (40 * r + i + (q - (40 * t + j))) else mi c q), ml, MR)) n (fun k hk => by
      have body : ∀ v : Value, (v = xmk ∨ ∃ z, v = .int z) → X 161 104 [.ref 68, .int (nI r), .int (nI i), .int (nI t), .int (nI j), .int (nI n), .int (nI k), v] [] (SH L, (fun c q => if c = 70 ∧ 40 * t + j ≤ q ∧ q < 40 * t + j + k then mi 70 (40 * r + i + (q - (40 * t + j))) else mi c q), ml, MR) d Q = X 161 104 [.ref 68, .int (nI r), .int (nI i), .int (nI t), .int (nI j), .int (nI n), .int (nI (k + 1)), .int (nI k)] [] (SH L, (fun c q => if c = 70 ∧ 40 * t + j ≤ q ∧ q < 40 * t + j + (k + 1) then mi 70 (40 * r + i + (q - (40 * t + j))) else mi c q), ml, MR) d Q := by
        have key : (xw (fun c q => if c = 70 ∧ 40 * t + j ≤ q ∧ q < 40 * t + j + k then mi 70 (40 * r + i + (q - (40 * t + j))) else mi c q) 70 (40 * t + j + k) ((fun c q => if c = 70 ∧ 40 * t + j ≤ q ∧ q < 40 * t + j + k then mi 70 (40 * r + i + (q - (40 * t + j))) else mi c q) 70 (40 * r + i + k))) = (fun c q => if c = 70 ∧ 40 * t + j ≤ q ∧ q < 40 * t + j + (k + 1) then mi 70 (40 * r + i + (q - (40 * t + j))) else mi c q) := by
          funext c q
          simp only [xw]
          rw [if_neg (show ¬ (70 = 70 ∧ 40 * t + j ≤ 40 * r + i + k ∧ 40 * r + i + k < 40 * t + j + k) from fun z => by
            rcases Nat.lt_trichotomy r t with hh | hh | hh <;> omega)]
          by_cases z1 : c = 70
          · by_cases z2 : q = 40 * t + j + k
            · rw [if_pos ⟨z1, z2⟩, if_pos ⟨z1, by omega, by omega⟩]
              congr 1
              omega
            · rw [if_neg (fun z => z2 z.2)]
              by_cases z3 : 40 * t + j ≤ q ∧ q < 40 * t + j + k
              · rw [if_pos ⟨z1, z3⟩, if_pos ⟨z1, by omega, by omega⟩]
              · rw [if_neg (fun z => z3 z.2), if_neg (fun z => z3 (by omega))]
          · rw [if_neg (fun z => z1 z.1), if_neg (fun z => z1 z.1), if_neg (fun z => z1 z.1)]
        rintro v (rfl | ⟨z, rfl⟩)
        · rw [s161_104 (fun _ z => absurd z hnij) (fun _ z => absurd z hnij) (fun _ _ => by rw [ad]; exact hin _ _ _ hr (by omega)) (fun _ _ => by rw [ad]; exact hin _ _ _ ht (by omega)), if_pos (nI_lt hk (by omega)), if_neg hnij, ad, ad, nI_clamp (by omega), nI_clamp (by omega), nI_1, key]
        · rw [s161_104v2 (fun _ z => absurd z hnij) (fun _ z => absurd z hnij) (fun _ _ => by rw [ad]; exact hin _ _ _ hr (by omega)) (fun _ _ => by rw [ad]; exact hin _ _ _ ht (by omega)), if_pos (nI_lt hk (by omega)), if_neg hnij, ad, ad, nI_clamp (by omega), nI_clamp (by omega), nI_1, key]
      simp only [if_neg (Nat.succ_ne_zero k), Nat.add_sub_cancel]
      exact body _ (by split; exact Or.inl rfl; exact Or.inr ⟨_, rfl⟩))
    have e0 : (fun (c q : Nat) => if c = 70 ∧ 40 * t + j ≤ q ∧ q < 40 * t + j + 0 then mi 70 (40 * r + i + (q - (40 * t + j))) else mi c q) = mi := by
      funext c q
      rw [if_neg (by omega)]
    simp only [e0, if_true] at hl
    rw [hl]
    by_cases h0 : n = 0
    · rw [if_pos h0, s161_104 (fun z => absurd z (nI_nlt (by omega) (by omega))) (fun z => absurd z (nI_nlt (by omega) (by omega))) (fun z => absurd z (nI_nlt (by omega) (by omega))) (fun z => absurd z (nI_nlt (by omega) (by omega))), if_neg (nI_nlt (by omega) (by omega))]
    · rw [if_neg h0, s161_104v2 (fun z => absurd z (nI_nlt (by omega) (by omega))) (fun z => absurd z (nI_nlt (by omega) (by omega))) (fun z => absurd z (nI_nlt (by omega) (by omega))) (fun z => absurd z (nI_nlt (by omega) (by omega))), if_neg (nI_nlt (by omega) (by omega))]
