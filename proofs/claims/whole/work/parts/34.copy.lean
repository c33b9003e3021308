/-! copy -/
def cpL (ys : List Int32) (i : Nat) (xs : List Int32) (j n : Nat) : List Int32 := (List.range xs.length).map fun k => if j ≤ k ∧ k < j + n then ys.getD (i + (k - j)) 0 else xs.getD k 0
theorem cpL_len (ys : List Int32) (i : Nat) (xs : List Int32) (j n : Nat) : (cpL ys i xs j n).length = xs.length := by simp [cpL]
theorem cpL_at (ys : List Int32) (i : Nat) (xs : List Int32) (j n : Nat) {k : Nat} (h : k < xs.length) : (cpL ys i xs j n).getD k 0 = if j ≤ k ∧ k < j + n then ys.getD (i + (k - j)) 0 else xs.getD k 0 := by
  rw [List.getD_eq_getElem?_getD]
  simp only [cpL, List.getElem?_map, List.getElem?_range h, Option.map_some, Option.getD_some]
section HOLDS
variable {L : Nat} {mi : Nat → Nat → Int32} {ml : Nat → Nat → Int64} {d : Nat} {Q : Option Value → xM → Prop} {a n : Nat}
/-- holds, of n places from x on -/
theorem c89 {xs : List Int32} {x : Int32} {m : Nat} (hS : isStrip L a n) (h : stR mi a (some xs)) (hx : xs.length < 1000) (hm : m < 2 ^ 31) : Xm 89 [.ref a, .int x, .int (nI m)] (SH L, mi, ml, MR) d Q = Q (some (.int (bI (0 ≤ x.toInt ∧ x.toInt + m ≤ xs.length)))) (SH L, mi, ml, MR) := by
  rw [s89 hS, if_neg (nI_nneg hm), h.1]
  have h0 : (0 : Int32).toInt = 0 := rfl
  by_cases h1 : x < 0
  · rw [if_pos h1, bI_f]
    rw [Int32.lt_iff_toInt_lt] at h1
    omega
  · rw [if_neg h1]
    by_cases h2 : xs.length < m
    · rw [if_pos (nI_lt h2 hm), bI_f]
      rw [Int32.lt_iff_toInt_lt] at h1
      omega
    · rw [if_neg (nI_nlt (by omega) (by omega)), nI_sub (by omega)]
      by_cases h3 : nI (xs.length - m) < x
      · rw [if_pos h3, bI_f]
        rw [Int32.lt_iff_toInt_lt, nI_toInt (by omega)] at h3
        omega
      · rw [if_neg h3, bI_t]
        rw [Int32.lt_iff_toInt_lt] at h1
        rw [Int32.lt_iff_toInt_lt, nI_toInt (by omega)] at h3
        omega
/-- bring, where both hold it -/
theorem c96 {b nb i j m : Nat} {xs ys : List Int32} (hS : isStrip L a n) (hSb : isStrip L b nb) (h : stR mi a (some xs)) (hb : stR mi b (some ys)) (hn : n < 1000) (hnb : nb < 1000) (hx : xs.length ≤ n) (hy : ys.length ≤ nb) (hi : i + m ≤ ys.length) (hj : j + m ≤ xs.length) : Xm 96 [.ref a, .ref b, .int (nI i), .int (nI j), .int (nI m)] (SH L, mi, ml, MR) (d + 1) Q = Q none (SH L, xcpy mi (b + 1) i (a + 1) j m, ml, MR) := by
  rw [s96 hS hSb, c89 hSb hb (by omega) (by omega), ret1, bI_t (by rw [nI_toInt (by omega)]; omega), s96_11 hS hSb, if_neg i1_ne0, c89 hS h (by omega) (by omega), ret1, bI_t (by rw [nI_toInt (by omega)]; omega)]
  rw [s96_21 hS hSb (fun _ => ⟨nI_nneg (by omega), nI_nneg (by omega), nI_nneg (by omega), by rw [nI_clamp (by omega), nI_clamp (by omega)]; omega, by rw [nI_clamp (by omega), nI_clamp (by omega)]; omega, rfl⟩), if_neg i1_ne0, nI_clamp (by omega), nI_clamp (by omega), nI_clamp (by omega)]
theorem stR_bring {b i j m : Nat} {xs ys : List Int32} (h : stR mi a (some xs)) (hb : stR mi b (some ys)) (hi : i + m ≤ ys.length) (hj : j + m ≤ xs.length) : stR (xcpy mi (b + 1) i (a + 1) j m) a (some (cpL ys i xs j m)) := by
  refine ⟨by simp only [xcpy]; rw [if_neg (by omega), h.1, cpL_len], fun k hk => ?_⟩
  rw [cpL_len] at hk
  rw [cpL_at _ _ _ _ _ hk]
  simp only [xcpy, true_and]
  by_cases hc : j ≤ k ∧ k < j + m
  · rw [if_pos hc, if_pos hc, hb.2 _ (by omega)]
  · rw [if_neg hc, if_neg hc, h.2 k hk]
end HOLDS
theorem wide_sum (x y : Int32) : (x.toInt64 + y.toInt64).toInt = x.toInt + y.toInt := by
  have h1 := x.toInt_lt
  have h2 := y.toInt_lt
  have h3 := x.le_toInt
  have h4 := y.le_toInt
  rw [Int64.toInt_add, Int32.toInt_toInt64, Int32.toInt_toInt64]
  rw [Int.bmod_def]
  show (if (x.toInt + y.toInt) % 18446744073709551616 < (18446744073709551616 + 1) / 2 then (x.toInt + y.toInt) % 18446744073709551616 else (x.toInt + y.toInt) % 18446744073709551616 - 18446744073709551616) = x.toInt + y.toInt
  split <;> omega
theorem wide_gt (x : Int32) {m l : Nat} (hm : m < 2 ^ 31) (hl : l < 2 ^ 31) : (0 : Int32) < lg_cmp (x.toInt64 + (nI m).toInt64) (nI l).toInt64 ↔ (l : Int) < x.toInt + m := by
  rw [lg_gt, Int64.lt_iff_toInt_lt, wide_sum, Int32.toInt_toInt64, nI_toInt hm, nI_toInt hl]
/-- the model's loop, forth or back -/
theorem m161_loop {L : Nat} {mi : Nat → Nat → Int32} {ml : Nat → Nat → Int64} {d : Nat} {Q : Option Value → xM → Prop} {r i t j n : Nat} (hr : r < 6) (ht : t < 6) (hi : i + n ≤ 40) (hj : j + n ≤ 40) : X 161 104 [.ref 68, .int (nI r), .int (nI i), .int (nI t), .int (nI j), .int (nI n), .int (nI 0), xmk] [] (SH L, mi, ml, MR) d Q = Q (some (.int 1)) (SH L, (fun c q => if c = 70 ∧ 40 * t + j ≤ q ∧ q < 40 * t + j + n then mi 70 (40 * r + i + (q - (40 * t + j))) else mi c q), ml, MR) := by
  have ad : ∀ a b c, (40 : Int32) * nI a + nI b + nI c = nI (40 * a + b + c) := fun a b c => by rw [show (40 : Int32) = nI 40 from rfl, nI_mul, nI_add, nI_add]
  have hin : ∀ a b c, a < 6 → b + c < 40 → xin (nI (40 * a + b + c)) 240 = true := fun a b c h1 h2 => xin_nI (by omega) (by omega)
  by_cases hij : i < j
  · have pr : ∀ k, k < n → (nI n - 1) - nI k = nI (n - 1 - k) := fun k hk => by rw [show (1 : Int32) = nI 1 from rfl, nI_sub (by omega), nI_sub (by omega)]
    have hl := X_loop (mid := 161) (pc := 104) (d := d) (Q := Q) (fun k => [.ref 68, .int (nI r), .int (nI i), .int (nI t), .int (nI j), .int (nI n), .int (nI k), if k = 0 then xmk else .int (nI (n - 1 - (k - 1)))]) (fun k => (SH L, (fun c q => if c = 70 ∧ 40 * t + j + (n - k) ≤ q ∧ q < 40 * t + j + n then mi 70 (40 * r + i + (q - (40 * t + j))) else mi c q), ml, MR)) n (fun k hk => by
      have body : ∀ v : Value, (v = xmk ∨ ∃ z, v = .int z) → X 161 104 [.ref 68, .int (nI r), .int (nI i), .int (nI t), .int (nI j), .int (nI n), .int (nI k), v] [] (SH L, (fun c q => if c = 70 ∧ 40 * t + j + (n - k) ≤ q ∧ q < 40 * t + j + n then mi 70 (40 * r + i + (q - (40 * t + j))) else mi c q), ml, MR) d Q = X 161 104 [.ref 68, .int (nI r), .int (nI i), .int (nI t), .int (nI j), .int (nI n), .int (nI (k + 1)), .int (nI (n - 1 - k))] [] (SH L, (fun c q => if c = 70 ∧ 40 * t + j + (n - (k + 1)) ≤ q ∧ q < 40 * t + j + n then mi 70 (40 * r + i + (q - (40 * t + j))) else mi c q), ml, MR) d Q := by
        have key : (xw (fun c q => if c = 70 ∧ 40 * t + j + (n - k) ≤ q ∧ q < 40 * t + j + n then mi 70 (40 * r + i + (q - (40 * t + j))) else mi c q) 70 (40 * t + j + (n - 1 - k)) ((fun c q => if c = 70 ∧ 40 * t + j + (n - k) ≤ q ∧ q < 40 * t + j + n then mi 70 (40 * r + i + (q - (40 * t + j))) else mi c q) 70 (40 * r + i + (n - 1 - k)))) = (fun c q => if c = 70 ∧ 40 * t + j + (n - (k + 1)) ≤ q ∧ q < 40 * t + j + n then mi 70 (40 * r + i + (q - (40 * t + j))) else mi c q) := by
          funext c q
          simp only [xw]
          rw [if_neg (show ¬ (True ∧ 40 * t + j + (n - k) ≤ 40 * r + i + (n - 1 - k) ∧ 40 * r + i + (n - 1 - k) < 40 * t + j + n) from fun z => by
            rcases Nat.lt_trichotomy r t with hh | hh | hh <;> omega)]
          by_cases z1 : c = 70
          · by_cases z2 : q = 40 * t + j + (n - 1 - k)
            · rw [if_pos ⟨z1, z2⟩, if_pos ⟨z1, by omega, by omega⟩]
              congr 1
              omega
            · rw [if_neg (fun z => z2 z.2)]
              by_cases z3 : 40 * t + j + (n - k) ≤ q ∧ q < 40 * t + j + n
              · rw [if_pos ⟨z1, z3⟩, if_pos ⟨z1, by omega, by omega⟩]
              · rw [if_neg (fun z => z3 z.2), if_neg (fun z => z3 (by omega))]
          · rw [if_neg (fun z => z1 z.1), if_neg (fun z => z1 z.1), if_neg (fun z => z1 z.1)]
        rintro v (rfl | ⟨z, rfl⟩)
        · rw [s161_104 (fun _ _ => by rw [pr k hk, ad]; exact hin _ _ _ hr (by omega)) (fun _ _ => by rw [pr k hk, ad]; exact hin _ _ _ ht (by omega)) (fun _ z => absurd (nI_lt hij (by omega)) z) (fun _ z => absurd (nI_lt hij (by omega)) z), if_pos (nI_lt hk (by omega)), if_pos (nI_lt hij (by omega)), pr k hk, ad, ad, nI_clamp (by omega), nI_clamp (by omega), nI_1, key]
        · rw [s161_104v2 (fun _ _ => by rw [pr k hk, ad]; exact hin _ _ _ hr (by omega)) (fun _ _ => by rw [pr k hk, ad]; exact hin _ _ _ ht (by omega)) (fun _ z => absurd (nI_lt hij (by omega)) z) (fun _ z => absurd (nI_lt hij (by omega)) z), if_pos (nI_lt hk (by omega)), if_pos (nI_lt hij (by omega)), pr k hk, ad, ad, nI_clamp (by omega), nI_clamp (by omega), nI_1, key]
      simp only [if_neg (Nat.succ_ne_zero k), Nat.add_sub_cancel]
      exact body _ (by split; exact Or.inl rfl; exact Or.inr ⟨_, rfl⟩))
    have e0 : (fun (c q : Nat) => if c = 70 ∧ 40 * t + j + (n - 0) ≤ q ∧ q < 40 * t + j + n then mi 70 (40 * r + i + (q - (40 * t + j))) else mi c q) = mi := by
      funext c q
      rw [if_neg (by omega)]
    simp only [e0, if_true] at hl
    rw [hl]
    have en : ∀ q, (40 * t + j + (n - n) ≤ q ∧ q < 40 * t + j + n) = (40 * t + j ≤ q ∧ q < 40 * t + j + n) := fun q => by rw [Nat.sub_self, Nat.add_zero]
    simp only [en]
    by_cases h0 : n = 0
    · rw [if_pos h0, s161_104 (fun z => absurd z (nI_nlt (by omega) (by omega))) (fun z => absurd z (nI_nlt (by omega) (by omega))) (fun z => absurd z (nI_nlt (by omega) (by omega))) (fun z => absurd z (nI_nlt (by omega) (by omega))), if_neg (nI_nlt (by omega) (by omega))]
    · rw [if_neg h0, s161_104v2 (fun z => absurd z (nI_nlt (by omega) (by omega))) (fun z => absurd z (nI_nlt (by omega) (by omega))) (fun z => absurd z (nI_nlt (by omega) (by omega))) (fun z => absurd z (nI_nlt (by omega) (by omega))), if_neg (nI_nlt (by omega) (by omega))]
  · have hnij : ¬ nI i < nI j := nI_nlt (by omega) (by omega)
    have hl := X_loop (mid := 161) (pc := 104) (d := d) (Q := Q) (fun k => [.ref 68, .int (nI r), .int (nI i), .int (nI t), .int (nI j), .int (nI n), .int (nI k), if k = 0 then xmk else .int (nI (k - 1))]) (fun k => (SH L, (fun c q => if c = 70 ∧ 40 * t + j ≤ q ∧ q < 40 * t + j + k then mi 70 (40 * r + i + (q - (40 * t + j))) else mi c q), ml, MR)) n (fun k hk => by
      have body : ∀ v : Value, (v = xmk ∨ ∃ z, v = .int z) → X 161 104 [.ref 68, .int (nI r), .int (nI i), .int (nI t), .int (nI j), .int (nI n), .int (nI k), v] [] (SH L, (fun c q => if c = 70 ∧ 40 * t + j ≤ q ∧ q < 40 * t + j + k then mi 70 (40 * r + i + (q - (40 * t + j))) else mi c q), ml, MR) d Q = X 161 104 [.ref 68, .int (nI r), .int (nI i), .int (nI t), .int (nI j), .int (nI n), .int (nI (k + 1)), .int (nI k)] [] (SH L, (fun c q => if c = 70 ∧ 40 * t + j ≤ q ∧ q < 40 * t + j + (k + 1) then mi 70 (40 * r + i + (q - (40 * t + j))) else mi c q), ml, MR) d Q := by
        have key : (xw (fun c q => if c = 70 ∧ 40 * t + j ≤ q ∧ q < 40 * t + j + k then mi 70 (40 * r + i + (q - (40 * t + j))) else mi c q) 70 (40 * t + j + k) ((fun c q => if c = 70 ∧ 40 * t + j ≤ q ∧ q < 40 * t + j + k then mi 70 (40 * r + i + (q - (40 * t + j))) else mi c q) 70 (40 * r + i + k))) = (fun c q => if c = 70 ∧ 40 * t + j ≤ q ∧ q < 40 * t + j + (k + 1) then mi 70 (40 * r + i + (q - (40 * t + j))) else mi c q) := by
          funext c q
          simp only [xw]
          rw [if_neg (show ¬ (True ∧ 40 * t + j ≤ 40 * r + i + k ∧ 40 * r + i + k < 40 * t + j + k) from fun z => by
            rcases Nat.lt_trichotomy r t with hh | hh | hh <;> omega)]
          by_cases z1 : c = 70
          · by_cases z2 : q = 40 * t + j + k
            · rw [if_pos ⟨z1, z2⟩, if_pos ⟨z1, by omega, by omega⟩]
              congr 1
              omega
            · rw [if_neg (fun z => z2 z.2)]
              by_cases z3 : 40 * t + j ≤ q ∧ q < 40 * t + j + k
              · rw [if_pos ⟨z1, z3⟩, if_pos ⟨z1, by omega, by omega⟩]
              · rw [if_neg (fun z => z3 z.2), if_neg (fun z => z3 (by omega))]
          · rw [if_neg (fun z => z1 z.1), if_neg (fun z => z1 z.1), if_neg (fun z => z1 z.1)]
        rintro v (rfl | ⟨z, rfl⟩)
        · rw [s161_104 (fun _ z => absurd z hnij) (fun _ z => absurd z hnij) (fun _ _ => by rw [ad]; exact hin _ _ _ hr (by omega)) (fun _ _ => by rw [ad]; exact hin _ _ _ ht (by omega)), if_pos (nI_lt hk (by omega)), if_neg hnij, ad, ad, nI_clamp (by omega), nI_clamp (by omega), nI_1, key]
        · rw [s161_104v2 (fun _ z => absurd z hnij) (fun _ z => absurd z hnij) (fun _ _ => by rw [ad]; exact hin _ _ _ hr (by omega)) (fun _ _ => by rw [ad]; exact hin _ _ _ ht (by omega)), if_pos (nI_lt hk (by omega)), if_neg hnij, ad, ad, nI_clamp (by omega), nI_clamp (by omega), nI_1, key]
      simp only [if_neg (Nat.succ_ne_zero k), Nat.add_sub_cancel]
      exact body _ (by split; exact Or.inl rfl; exact Or.inr ⟨_, rfl⟩))
    have e0 : (fun (c q : Nat) => if c = 70 ∧ 40 * t + j ≤ q ∧ q < 40 * t + j + 0 then mi 70 (40 * r + i + (q - (40 * t + j))) else mi c q) = mi := by
      funext c q
      rw [if_neg (by omega)]
    simp only [e0, if_true] at hl
    rw [hl]
    by_cases h0 : n = 0
    · rw [if_pos h0, s161_104 (fun z => absurd z (nI_nlt (by omega) (by omega))) (fun z => absurd z (nI_nlt (by omega) (by omega))) (fun z => absurd z (nI_nlt (by omega) (by omega))) (fun z => absurd z (nI_nlt (by omega) (by omega))), if_neg (nI_nlt (by omega) (by omega))]
    · rw [if_neg h0, s161_104v2 (fun z => absurd z (nI_nlt (by omega) (by omega))) (fun z => absurd z (nI_nlt (by omega) (by omega))) (fun z => absurd z (nI_nlt (by omega) (by omega))) (fun z => absurd z (nI_nlt (by omega) (by omega))), if_neg (nI_nlt (by omega) (by omega))]
theorem if4 {p1 p2 p3 p4 A B : Prop} [Decidable p1] [Decidable p2] [Decidable p3] [Decidable p4] (h : p1 ∨ p2 ∨ p3 ∨ p4) : (if p1 then A else if p2 then A else if p3 then A else if p4 then A else B) = A := by
  repeat' split
  all_goals first | rfl | (exfalso; simp_all)
theorem neg_toInt {x : Int32} : x < 0 ↔ x.toInt < 0 := Int32.lt_iff_toInt_lt
theorem nat_of_toInt {x : Int32} {m l : Nat} (h : 0 ≤ x.toInt ∧ x.toInt + m ≤ l) (hl : l < 2 ^ 31) : ∃ i, x = nI i ∧ i + m ≤ l := by
  rcases i32_cases x with hx | ⟨i, hi, rfl⟩
  · rw [neg_toInt] at hx
    omega
  · rw [nI_toInt hi] at h
    exact ⟨i, rfl, by omega⟩
theorem op_copy (x1 x2 x3 x4 x5 : Int32) : OpI 103 161 [.int x1, .int x2, .int x3, .int x4, .int x5] := op_of fun R T P D K S hok => by
  rcases num_cases x1 6 (by omega) with hx | ⟨r, hr, rfl⟩
  · refine ex_ret (.int (-1)) ⟨_, rfl⟩ hok (fun L mi ml Q h k => ?_) (fun L mi ml Q h k => ?_)
    · rw [s103, c82n (shRows L) (by omega) (by omega) hx, ret1, s103_8n]
      rcases num_cases x3 6 (by omega) with hx3 | ⟨t, ht, rfl⟩
      · rw [c82n (shRows L) (by omega) (by omega) hx3, ret1, s103_18nv2]; exact k mi ml h sameM_rf
      · rw [c82 (shRows L) (by omega) ht, ret1, s103_18v2 ((shRows L).2 t ht).2]; exact k mi ml h sameM_rf
    · rw [s161, c155, ret1, bI_f (in_bad (n := 5) (by omega) hx), s161_4, if_pos rfl]; exact k mi ml h sameC_rf
  have hS := fun L => ((shRows L).2 r hr).2
  rcases num_cases x3 6 (by omega) with hx3 | ⟨t, ht, rfl⟩
  · refine ex_ret (.int (-1)) ⟨_, rfl⟩ hok (fun L mi ml Q h k => ?_) (fun L mi ml Q h k => ?_)
    · rw [s103, c82 (shRows L) (by omega) hr, ret1, s103_8 (hS L), c82n (shRows L) (by omega) (by omega) hx3, ret1, s103_18n (hS L)]; exact k mi ml h sameM_rf
    · rw [s161, c155, ret1, bI_t (in_ok (n := 5) (by omega) (by omega)), s161_4, if_neg i1_ne0, c155, ret1, bI_f (in_bad (n := 5) (by omega) hx3), s161_11 (fun z => absurd rfl z) (fun z => absurd rfl z) (fun z => absurd rfl z) (fun z => absurd rfl z), if_pos rfl]; exact k mi ml h sameC_rf
  have hT := fun L => ((shRows L).2 t ht).2
  have C1 : ∀ L mi ml Q, Xm 103 [.ref 2, .int (nI r), .int x2, .int (nI t), .int x4, .int x5] (SH L, mi, ml, MR) 99 Q = X 103 18 [.ref 2, .int (nI r), .int x2, .int (nI t), .int x4, .int x5, .ref (3 + 2 + 2 * r), xmk] [.ref (3 + 2 + 2 * t)] (SH L, mi, ml, MR) 99 Q := fun L mi ml Q => by
    rw [s103, c82 (shRows L) (by omega) hr, ret1, s103_8 (hS L), c82 (shRows L) (by omega) ht, ret1]
  have M1 : ∀ L mi ml Q, Xm 161 [.ref 68, .int (nI r), .int x2, .int (nI t), .int x4, .int x5] (SH L, mi, ml, MR) 99 Q = X 161 11 [.ref 68, .int (nI r), .int x2, .int (nI t), .int x4, .int x5, xmk, xmk] [.int 1] (SH L, mi, ml, MR) 99 Q := fun L mi ml Q => by
    rw [s161, c155, ret1, bI_t (in_ok (n := 5) (by omega) (by omega)), s161_4, if_neg i1_ne0, c155, ret1, bI_t (in_ok (n := 5) (by omega) (by omega))]
  have M2 : ∀ L (mi : Nat → Nat → Int32) ml Q, X 161 11 [.ref 68, .int (nI r), .int x2, .int (nI t), .int x4, .int x5, xmk, xmk] [.int 1] (SH L, mi, ml, MR) 99 Q = _ := fun L mi ml Q => s161_11 (fun _ _ => xin_nI hr (by omega)) (fun _ _ _ => xin_nI ht (by omega)) (fun _ _ _ _ _ _ => xin_nI hr (by omega)) (fun _ _ _ _ _ _ _ => xin_nI ht (by omega))
  rcases i32_cases x5 with h5 | ⟨m, hm, rfl⟩
  · refine ex_S (.int (-3)) (sFound 5 S) ⟨_, rfl⟩ hok (fun L mi ml Q h k => ?_) (fun L mi ml Q h k => ?_)
    · rw [C1, s103_18 (hS L) (hT L), if_pos h5, c141_5, ret1, s103_42 (hS L) (hT L)]
      exact k _ _ (Cst_found hok.1.1 h).1 (Cst_found hok.1.1 h).2
    · rw [M1, M2, if_neg i1_ne0, if_pos h5, c152_5, ret1, s161_26]
      exact k _ _ (Mst_found h).1 (Mst_found h).2
  cases hR : R r with
  | none =>
    refine ex_S (.int (-3)) (sFound 1 S) ⟨_, rfl⟩ hok (fun L mi ml Q h k => ?_) (fun L mi ml Q h k => ?_)
    · have hst := (h.1 r hr).1
      rw [hR] at hst
      rw [C1, s103_18 (hS L) (hT L), if_neg (nI_nneg hm), c87 (x := none) (hS L) hst (by omega) (fun _ h => by cases h), ret1, s103_48 (hS L) (hT L), bI_t rfl, if_neg i1_ne0, c141_1, ret1, s103_64 (hS L) (hT L)]
      exact k _ _ (Cst_found hok.1.1 h).1 (Cst_found hok.1.1 h).2
    · have hst := (h.1 r hr).1
      rw [hR] at hst
      rw [M1, M2, if_neg i1_ne0, if_neg (nI_nneg hm), nI_clamp (by omega), hst, if_pos (by decide), c152_1, ret1, s161_50]
      exact k _ _ (Mst_found h).1 (Mst_found h).2
  | some xs =>
    cases hRt : R t with
    | none =>
      refine ex_S (.int (-3)) (sFound 1 S) ⟨_, rfl⟩ hok (fun L mi ml Q h k => ?_) (fun L mi ml Q h k => ?_)
      · have hst := (h.1 r hr).1
        have hln := (h.1 r hr).2 xs hR
        have hst2 := (h.1 t ht).1
        rw [hR] at hst
        rw [hRt] at hst2
        rw [C1, s103_18 (hS L) (hT L), if_neg (nI_nneg hm), c87 (hS L) hst (by omega) (fun _ h => by cases h; exact hln), ret1, s103_48 (hS L) (hT L), bI_f (by simp), if_pos rfl, c87 (x := none) (hT L) hst2 (by omega) (fun _ h => by cases h), ret1, s103_56 (hS L) (hT L), bI_t rfl, if_neg i1_ne0, c141_1, ret1, s103_64 (hS L) (hT L)]
        exact k _ _ (Cst_found hok.1.1 h).1 (Cst_found hok.1.1 h).2
      · have hst := (h.1 r hr).1
        have hln := ((h.1 r hr).2 xs hR).1
        have hst2 := (h.1 t ht).1
        rw [hR] at hst
        rw [hRt] at hst2
        rw [M1, M2, if_neg i1_ne0, if_neg (nI_nneg hm), nI_clamp (by omega), nI_clamp (by omega), hst, hst2, if_neg (show ¬ szI (some xs) < 0 from nI_nneg (by omega)), if_pos (by decide), c152_1, ret1, s161_50]
        exact k _ _ (Mst_found h).1 (Mst_found h).2
    | some ys =>
      have C2 : ∀ L mi ml Q, Cst R T P D K S mi ml → Xm 103 [.ref 2, .int (nI r), .int x2, .int (nI t), .int x4, .int (nI m)] (SH L, mi, ml, MR) 99 Q = X 103 73 [.ref 2, .int (nI r), .int x2, .int (nI t), .int x4, .int (nI m), .ref (3 + 2 + 2 * r), .ref (3 + 2 + 2 * t)] [.int (bI (0 ≤ x2.toInt ∧ x2.toInt + m ≤ xs.length))] (SH L, mi, ml, MR) 99 Q := fun L mi ml Q h => by
        have hst := (h.1 r hr).1
        have hln := (h.1 r hr).2 xs hR
        have hst2 := (h.1 t ht).1
        have hln2 := (h.1 t ht).2 ys hRt
        rw [hR] at hst
        rw [hRt] at hst2
        rw [C1, s103_18 (hS L) (hT L), if_neg (nI_nneg hm), c87 (hS L) hst (by omega) (fun _ h => by cases h; exact hln), ret1, s103_48 (hS L) (hT L), bI_f (by simp), if_pos rfl, c87 (hT L) hst2 (by omega) (fun _ h => by cases h; exact hln2), ret1, s103_56 (hS L) (hT L), bI_f (by simp), if_pos rfl, c89 (hS L) hst (by omega) hm, ret1]
      by_cases hin : (0 ≤ x2.toInt ∧ x2.toInt + m ≤ xs.length) ∧ (0 ≤ x4.toInt ∧ x4.toInt + m ≤ ys.length)
      · refine ⟨.int 1, up R t (some (cpL xs x2.toInt.toNat ys x4.toInt.toNat m)), T, P, D, K, S, ⟨_, rfl⟩, hok, (fun L mi ml Q h k => ?_), (fun L mi ml Q h k => ?_)⟩
        · have hst := (h.1 r hr).1
          have hln := (h.1 r hr).2 xs hR
          have hst2 := (h.1 t ht).1
          have hln2 := (h.1 t ht).2 ys hRt
          rw [hR] at hst
          rw [hRt] at hst2
          rw [C2 L mi ml Q h, bI_t hin.1, s103_73 (hS L) (hT L), if_neg i1_ne0, c89 (hT L) hst2 (by omega) hm, ret1, bI_t hin.2, s103_85 (hS L) (hT L), if_neg i1_ne0]
          obtain ⟨i, hi, hi2⟩ := nat_of_toInt hin.1 (by omega)
          obtain ⟨j, hj, hj2⟩ := nat_of_toInt hin.2 (by omega)
          subst hi
          subst hj
          rw [nI_toInt (by omega), nI_toInt (by omega), Int.toNat_natCast, Int.toNat_natCast] at k
          rw [c96 (hT L) (hS L) hst2 hst (by omega) (by omega) hln2 hln hi2 hj2, ret0, s103_106 (hS L) (hT L)]
          have h2 := Cst_row (L := L) hok.1.1 ht h (stR_bring (a := 3 + 2 + 2 * t) hst2 hst hi2 hj2) (fun zs hzs => by cases hzs; rw [cpL_len]; exact hln2) (fun a i a1 a2 => by simp only [xcpy]; rw [if_neg (by omega)])
          exact k _ _ h2.1 h2.2
        · have hst := (h.1 r hr).1
          have hst2 := (h.1 t ht).1
          obtain ⟨hln, hcon⟩ := (h.1 r hr).2 xs hR
          obtain ⟨hln2, hcon2⟩ := (h.1 t ht).2 ys hRt
          rw [hR] at hst
          rw [hRt] at hst2
          have hst : mi 69 r = nI xs.length := hst
          have hst2 : mi 69 t = nI ys.length := hst2
          rw [M1, M2, if_neg i1_ne0, if_neg (nI_nneg hm), nI_clamp (by omega), nI_clamp (by omega), hst, hst2, if_neg (nI_nneg (by omega)), if_neg (nI_nneg (by omega)), if_neg (by rw [neg_toInt]; omega), if_neg (by rw [neg_toInt]; omega), if_neg (by rw [wide_gt _ hm (by omega)]; omega), if_neg (by rw [wide_gt _ hm (by omega)]; omega)]
          obtain ⟨i, hi, hi2⟩ := nat_of_toInt hin.1 (by omega)
          obtain ⟨j, hj, hj2⟩ := nat_of_toInt hin.2 (by omega)
          subst hi
          subst hj
          rw [nI_toInt (by omega), nI_toInt (by omega), Int.toNat_natCast, Int.toNat_natCast] at k
          refine Eq.mpr (m161_loop hr ht (by omega) (by omega)) ?_
          have h1 := Mst_row (r := t) (x := some (cpL xs i ys j m)) (mi' := (fun c q => if c = 70 ∧ 40 * t + j ≤ q ∧ q < 40 * t + j + m then mi 70 (40 * r + i + (q - (40 * t + j))) else mi c q)) ht h (by
            show (if 69 = 70 ∧ _ then _ else _) = _
            rw [if_neg (by omega), hst2]
            show _ = nI _
            rw [cpL_len]) (fun zs hzs => by
            cases hzs
            refine ⟨by rw [cpL_len]; exact hln2, fun q hq => ?_⟩
            rw [cpL_len] at hq
            rw [cpL_at _ _ _ _ _ hq]
            by_cases hc : j ≤ q ∧ q < j + m
            · rw [if_pos hc, ← hcon _ (by omega)]
              show (if 70 = 70 ∧ _ then _ else _) = _
              rw [if_pos ⟨rfl, by omega, by omega⟩]
              congr 1
              omega
            · rw [if_neg hc, ← hcon2 _ hq]
              show (if 70 = 70 ∧ _ then _ else _) = _
              rw [if_neg (by omega)]) (fun q _ => by
            show (if 69 = 70 ∧ _ then _ else _) = _
            rw [if_neg (by omega)]) (fun q i hq hne hi => by
            show (if 70 = 70 ∧ _ then _ else _) = _
            rw [if_neg (by omega)]) (fun a i a1 a2 => by
            show (if a = 70 ∧ _ then _ else _) = _
            rw [if_neg (by omega)])
          exact k _ _ h1.1 h1.2
      · refine ex_S (.int (-3)) (sFound 2 S) ⟨_, rfl⟩ hok (fun L mi ml Q h k => ?_) (fun L mi ml Q h k => ?_)
        · have hst2 := (h.1 t ht).1
          have hln2 := (h.1 t ht).2 ys hRt
          rw [hRt] at hst2
          rw [C2 L mi ml Q h]
          by_cases hp : 0 ≤ x2.toInt ∧ x2.toInt + m ≤ xs.length
          · rw [bI_t hp, s103_73 (hS L) (hT L), if_neg i1_ne0, c89 (hT L) hst2 (by omega) hm, ret1, bI_f (fun z => hin ⟨hp, z⟩), s103_85 (hS L) (hT L), if_pos rfl, c141_2, ret1, s103_93 (hS L) (hT L)]
            exact k _ _ (Cst_found hok.1.1 h).1 (Cst_found hok.1.1 h).2
          · rw [bI_f hp, s103_73 (hS L) (hT L), if_pos rfl, c141_2, ret1, s103_93 (hS L) (hT L)]
            exact k _ _ (Cst_found hok.1.1 h).1 (Cst_found hok.1.1 h).2
        · have hst := (h.1 r hr).1
          have hst2 := (h.1 t ht).1
          have hln := ((h.1 r hr).2 xs hR).1
          have hln2 := ((h.1 t ht).2 ys hRt).1
          rw [hR] at hst
          rw [hRt] at hst2
          have hst : mi 69 r = nI xs.length := hst
          have hst2 : mi 69 t = nI ys.length := hst2
          rw [M1, M2, if_neg i1_ne0, if_neg (nI_nneg hm), nI_clamp (by omega), nI_clamp (by omega), hst, hst2, if_neg (nI_nneg (by omega)), if_neg (nI_nneg (by omega)), if4 (by
            rw [neg_toInt, neg_toInt, wide_gt _ hm (by omega), wide_gt _ hm (by omega)]
            omega), c152_2, ret1, s161_100]
          exact k _ _ (Mst_found h).1 (Mst_found h).2
