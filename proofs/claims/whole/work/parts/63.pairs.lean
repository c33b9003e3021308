/-! pairs of pods and words -/
abbrev goodA (xs : List Int32) (j : Nat) : Prop := (¬ xs.getD (2 * j) 0 < 0 ∧ xs.getD (2 * j) 0 < nI 9) ∧ (¬ xs.getD (2 * j + 1) 0 < 0 ∧ xs.getD (2 * j + 1) 0 < nI 10)
def allG (xs : List Int32) : Nat → Bool
  | 0 => true
  | j + 1 => allG xs j && decide (goodA xs j)
theorem allG_iff (xs : List Int32) : ∀ n, allG xs n = true ↔ ∀ i, i < n → goodA xs i := by
  intro n
  induction n with
  | zero => exact ⟨fun _ i hi => absurd hi (Nat.not_lt_zero i), fun _ => rfl⟩
  | succ n ih =>
    unfold allG
    rw [Bool.and_eq_true, ih, decide_eq_true_iff]
    constructor
    · intro h i hi
      rcases Nat.lt_or_ge i n with hh | hh
      · exact h.1 i hh
      · rw [show i = n by omega]; exact h.2
    · intro h
      exact ⟨fun i hi => h i (by omega), h n (by omega)⟩
/-- what is wrong with a row of pairs -/
def pw (x : Option (List Int32)) : Nat := match x with
  | none => 1
  | some xs => if xs.length % 2 = 1 then 5 else if allG xs (xs.length / 2) = true then 0 else 3
theorem pw_lt (x : Option (List Int32)) : pw x < 6 := by
  unfold pw
  split
  · omega
  · split
    · omega
    · split <;> omega
def podN (xs : List Int32) (j : Nat) : Nat := (xs.getD (2 * j) 0).toNatClampNeg
def wrdN (xs : List Int32) (j : Nat) : Nat := (xs.getD (2 * j + 1) 0).toNatClampNeg
def fitN (xs : List Int32) (kind seed : Nat) : Nat → Bool
  | 0 => true
  | m + 1 => fitN xs kind seed m && decide (wordN kind seed (podN xs m) = wrdN xs m)
def fitB (xs : List Int32) (kind seed : Nat) : Bool := fitN xs kind seed (xs.length / 2)
theorem fitN_false {xs : List Int32} {kind seed : Nat} {m : Nat} (h : fitN xs kind seed m = false) : ∀ r, fitN xs kind seed (m + r) = false := by
  intro r
  induction r with
  | zero => exact h
  | succ r ih =>
    show (fitN xs kind seed (m + r) && _) = false
    rw [ih]
    rfl
theorem good_pod {xs : List Int32} {j : Nat} (h : goodA xs j) : xs.getD (2 * j) 0 = nI (podN xs j) ∧ podN xs j < 9 ∧ xs.getD (2 * j + 1) 0 = nI (wrdN xs j) ∧ wrdN xs j < 10 := by
  obtain ⟨⟨h1, h2⟩, h3, h4⟩ := h
  obtain ⟨p, hp, e⟩ : ∃ k, k < 2 ^ 31 ∧ xs.getD (2 * j) 0 = nI k := (i32_cases _).resolve_left h1
  obtain ⟨w, hw, e2⟩ : ∃ k, k < 2 ^ 31 ∧ xs.getD (2 * j + 1) 0 = nI k := (i32_cases _).resolve_left h3
  unfold podN wrdN
  rw [e] at h2 ⊢
  rw [e2] at h4 ⊢
  rw [nI_clamp hp, nI_clamp hw]
  exact ⟨rfl, (nI_ltI hp (by omega)).mp h2, rfl, (nI_ltI hw (by omega)).mp h4⟩
def clW (mi : Nat → Nat → Int32) (xs : List Int32) (n : Nat) : Nat → Nat → Int32 := fun a j => if a = 63 ∧ j < n then nI (maskN (fitB xs j) 10) else mi a j
section PAIRS
variable {R T : pR} {L : Nat} {mi : Nat → Nat → Int32} {ml : Nat → Nat → Int64} {d : Nat} {Q : Option Value → xM → Prop} {a n r0 kind seed r : Nat} {xs : List Int32}
theorem clW_ne {b j : Nat} (h : b ≠ 63) : clW mi xs n b j = mi b j := by
  unfold clW
  rw [if_neg (fun z => h z.1)]
theorem clW_63 {j : Nat} (h : j < n) : clW mi xs n 63 j = nI (maskN (fitB xs j) 10) := by
  unfold clW
  rw [if_pos ⟨rfl, h⟩]
theorem clW_0 : clW mi xs 0 = mi := by
  funext b j
  unfold clW
  rw [if_neg (by omega)]
theorem clW_s : xw (clW mi xs n) 63 n (nI (maskN (fitB xs n) 10)) = clW mi xs (n + 1) := by
  funext b j
  unfold xw clW
  by_cases h1 : b = 63
  · by_cases h2 : j = n
    · subst h1; subst h2; simp
    · simp [h1, h2]
      by_cases h3 : j < n
      · rw [if_pos h3, if_pos (by omega)]
      · rw [if_neg h3, if_neg (by omega)]
  · simp [h1]
theorem c7 {m : Nat} (hS : isStrip L r0 n) (hst : stR mi r0 (some xs)) (hn : n < 1000) (hx : xs.length ≤ n) (hev : xs.length = 2 * m) (hok : ∀ i, i < m → goodA xs i) (hk : kind < 6) (hs : seed < 10) : Xm 7 [.ref r0, .int (nI kind), .int (nI seed)] (SH L, mi, ml, MR) (d + 1) Q = Q (some (.int (bI (fitB xs kind seed = true)))) (SH L, mi, ml, MR) := by
  have em : xs.length / 2 = m := by omega
  have main : ∀ k j, j + k = m → fitN xs kind seed j = true → X 7 8 [.ref r0, .int (nI kind), .int (nI seed), .int (nI (2 * j))] [] (SH L, mi, ml, MR) (d + 1) Q = Q (some (.int (bI (fitB xs kind seed = true)))) (SH L, mi, ml, MR) := by
    intro k
    induction k with
    | zero =>
      intro j hj hf
      rw [s7_8 hS, c88 hS hst, ret1, s7_13 hS, if_neg (show ¬ nI (2 * j) < szI (some xs) from nI_nlt (by omega) (by omega)), bI_t]
      unfold fitB
      rw [em, show m = j by omega]
      exact hf
    | succ k ih =>
      intro j hj hf
      obtain ⟨g1, g2, g3, g4⟩ := good_pod (hok j (by omega))
      have hw := wordN_lt kind seed (podN xs j)
      rw [s7_8 hS, c88 hS hst, ret1, s7_13 hS, if_pos (show nI (2 * j) < szI (some xs) from nI_lt (by omega) (by omega)), c90 hS hst hn hx (by omega), ret1, g1, s7_23 hS, c48 hk (by omega) (by omega), ret1, s7_26 hS, nI_1, c90 hS hst hn hx (by omega), g3, ret1, s7_33 hS]
      by_cases he : wordN kind seed (podN xs j) = wrdN xs j
      · rw [if_pos (congrArg nI he), show nI (2 * j) + 2 = nI (2 * (j + 1)) from nI_add (2 * j) 2]
        refine ih (j + 1) (by omega) ?_
        unfold fitN
        rw [hf, decide_eq_true he]
        rfl
      · rw [if_neg (fun z => he (nI_inj (by omega) (by omega) z)), bI_f]
        unfold fitB
        have : fitN xs kind seed (j + 1) = false := by
          unfold fitN
          rw [decide_eq_false he, Bool.and_false]
        have h2 := fitN_false this k
        rw [em, show m = j + 1 + k by omega, h2]
        decide
  rw [s7 hS]
  exact main m 0 (by omega) rfl
theorem c6 {m : Nat} (hS : isStrip L r0 n) (h62 : r0 + 1 < 62) (hst : stR mi r0 (some xs)) (hn : n < 1000) (hx : xs.length ≤ n) (hev : xs.length = 2 * m) (hok : ∀ i, i < m → goodA xs i) : Xm 6 [.ref 62, .ref r0] (SH L, mi, ml, MR) (d + 2) Q = Q none (SH L, clW mi xs 6, ml, MR) := by
  rw [s6 hS]
  have hl := X_loop (mid := 6) (pc := 2) (d := d + 2) (Q := Q) (fun k => [.ref 62, .ref r0, .int (nI k), if k = 0 then xmk else .int (nI 10)]) (fun k => (SH L, clW mi xs k, ml, MR)) 6 (fun k hk => by
    rw [s6_2g hS (fun _ => xin_nI hk (by omega)), if_pos (show nI k < 6 from nI_lt (b := 6) hk (by omega)), nI_clamp (by omega)]
    have l2 := X_loop (mid := 6) (pc := 20) (d := d + 2) (Q := Q) (fun s => [.ref 62, .ref r0, .int (nI k), .int (nI s)]) (fun s => (SH L, xw (clW mi xs k) 63 k (nI (maskN (fitB xs k) s)), ml, MR)) 10 (fun s hs => by
      have hst' : stR (xw (clW mi xs k) 63 k (nI (maskN (fitB xs k) s))) r0 (some xs) := stR_congr hst (by rw [xw_ne (by omega), clW_ne (by omega)]) (fun j => by rw [xw_ne (by omega), clW_ne (by omega)])
      rw [s6_20 hS (fun _ => xin_nI hk (by omega)), if_pos (show nI s < 10 from nI_lt (b := 10) hs (by omega)), c7 hS hst' hn hx hev hok hk hs, ret1, s6_39 hS (fun _ => xin_nI hk (by omega)) (fun _ => xin_nI hk (by omega)), nI_clamp (by omega), xw_eq, if_pos rfl, xw_xw, xw_xw, mask_or10 hs, i32_or0, nI_1]
      show _ = X 6 20 _ _ (SH L, xw (clW mi xs k) 63 k (nI (maskN (fitB xs k) s + (if fitB xs k s = true then 2 ^ s else 0))), ml, MR) _ _
      by_cases hf : fitB xs k s = true
      · rw [bI_t hf, if_neg i1_ne0, if_pos hf]
      · rw [bI_f hf, if_pos rfl, if_neg hf]
        rfl)
    refine l2.trans ?_
    rw [s6_20 hS (fun z => absurd z (by decide)), if_neg (by decide), clW_s, nI_1]
    simp only [if_neg (Nat.succ_ne_zero k)])
  rw [clW_0] at hl
  refine hl.trans ?_
  rw [s6_2g hS (fun z => absurd z (by decide)), if_neg (by decide)]
theorem c142b {x : Int32} : Xm 142 [.int x] (SH L, mi, ml, MR) d Q = Q (some (.int (bI (¬ x < 0 ∧ x < nI 9)))) (SH L, mi, ml, MR) := by
  rw [s142]
  by_cases h0 : x < 0
  · rw [if_pos h0, bI_f (fun z => z.1 h0)]
  · rw [if_neg h0]
    by_cases h1 : x < 9
    · rw [if_pos h1, bI_t ⟨h0, h1⟩]
    · rw [if_neg h1, bI_f (fun z => h1 z.2)]
theorem c143b {x : Int32} : Xm 143 [.int x] (SH L, mi, ml, MR) d Q = Q (some (.int (bI (¬ x < 0 ∧ x < nI 10)))) (SH L, mi, ml, MR) := by
  rw [s143]
  by_cases h0 : x < 0
  · rw [if_pos h0, bI_f (fun z => z.1 h0)]
  · rw [if_neg h0]
    by_cases h1 : x < 10
    · rw [if_pos h1, bI_t ⟨h0, h1⟩]
    · rw [if_neg h1, bI_f (fun z => h1 z.2)]
theorem rem2 {k : Nat} (h : k < 2 ^ 31) : nI k - nI k / 2 * 2 = nI (k % 2) := nI_rem (b := 2) h (by omega)
theorem c147_head {m : Nat} (hS : isStrip L r0 n) (hst : stR mi r0 (some xs)) (hn : n < 1000) (hx : xs.length ≤ n) (hev : xs.length = 2 * m) : Xm 147 [.ref 2, .ref r0] (SH L, mi, ml, MR) (d + 1) Q = X 147 36 [.ref 2, .ref r0, .int (nI (2 * 0))] [] (SH L, mi, ml, MR) (d + 1) Q := by
  rw [s147 hS, c87 hS hst hn (fun _ h => by cases h; exact hx), ret1, s147_10 hS, bI_f (by simp), if_pos rfl, c88 hS hst, ret1, s147_23 hS, show szI (some xs) = nI xs.length from rfl, rem2 (by omega), show xs.length % 2 = 0 by omega, if_pos (by decide)]
  rfl
theorem c147_step {m j : Nat} (hS : isStrip L r0 n) (hst : stR mi r0 (some xs)) (hn : n < 1000) (hx : xs.length ≤ n) (hev : xs.length = 2 * m) (hj : j < m) (hg : goodA xs j) : X 147 36 [.ref 2, .ref r0, .int (nI (2 * j))] [] (SH L, mi, ml, MR) (d + 1) Q = X 147 36 [.ref 2, .ref r0, .int (nI (2 * (j + 1)))] [] (SH L, mi, ml, MR) (d + 1) Q := by
  rw [s147_36 hS, c88 hS hst, ret1, s147_41 hS, if_pos (show nI (2 * j) < szI (some xs) from nI_lt (by omega) (by omega)), c90 hS hst hn hx (by omega), ret1, s147_49 hS, c142b, ret1, s147_52 hS, bI_t hg.1, if_neg i1_ne0, nI_1, c90 hS hst hn hx (by omega), ret1, s147_62 hS, c143b, ret1, s147_65 hS, bI_t hg.2, if_neg i1_ne0, show nI (2 * j) + 2 = nI (2 * (j + 1)) from nI_add (2 * j) 2]
theorem c147_bad {m j : Nat} (hS : isStrip L r0 n) (hst : stR mi r0 (some xs)) (hn : n < 1000) (hx : xs.length ≤ n) (hev : xs.length = 2 * m) (hj : j < m) (hg : ¬ goodA xs j) : X 147 36 [.ref 2, .ref r0, .int (nI (2 * j))] [] (SH L, mi, ml, MR) (d + 1) Q = Q (some (.int (-3))) (SH L, xw (xw mi 2 10 (nI 3)) 67 3 (mi 67 3 + 1), ml, MR) := by
  rw [s147_36 hS, c88 hS hst, ret1, s147_41 hS, if_pos (show nI (2 * j) < szI (some xs) from nI_lt (by omega) (by omega)), c90 hS hst hn hx (by omega), ret1, s147_49 hS, c142b, ret1, s147_52 hS]
  by_cases h1 : ¬ xs.getD (2 * j) 0 < 0 ∧ xs.getD (2 * j) 0 < nI 9
  · rw [bI_t h1, if_neg i1_ne0, nI_1, c90 hS hst hn hx (by omega), ret1, s147_62 hS, c143b, ret1, s147_65 hS, bI_f (fun z => hg ⟨h1, z⟩), if_pos rfl, c141_3, ret1, s147_73 hS]
  · rw [bI_f h1, if_pos rfl, c141_3, ret1, s147_73 hS]
theorem c147 {x : Option (List Int32)} (hS : isStrip L r0 n) (hst : stR mi r0 x) (hn : n < 1000) (hx : ∀ xs, x = some xs → xs.length ≤ n) (hp : pw x ≠ 0) : Xm 147 [.ref 2, .ref r0] (SH L, mi, ml, MR) (d + 3) Q = Q (some (.int (-3))) (SH L, xw (xw mi 2 10 (nI (pw x))) 67 (pw x) (mi 67 (pw x) + 1), ml, MR) := by
  cases x with
  | none => rw [s147 hS, c87 (x := none) hS hst hn hx, ret1, s147_10 hS, bI_t rfl, if_neg i1_ne0, c141_1, ret1, s147_18 hS]; rfl
  | some xs =>
    have hx := hx xs rfl
    by_cases h1 : xs.length % 2 = 1
    · have e : pw (some xs) = 5 := by unfold pw; simp only; rw [if_pos h1]
      rw [e, s147 hS, c87 hS hst hn (fun _ h => by cases h; exact hx), ret1, s147_10 hS, bI_f (by simp), if_pos rfl, c88 hS hst, ret1, s147_23 hS, show szI (some xs) = nI xs.length from rfl, rem2 (by omega), h1, if_neg (by decide), c141_5, ret1, s147_33 hS]
    · have hev : xs.length = 2 * (xs.length / 2) := by omega
      have e : pw (some xs) = if allG xs (xs.length / 2) = true then 0 else 3 := by unfold pw; simp only; rw [if_neg h1]
      have h3 : ¬ allG xs (xs.length / 2) = true := fun z => hp (by rw [e, if_pos z])
      rw [e, if_neg h3, c147_head hS hst hn hx hev]
      rcases X_first (mid := 147) (pc := 36) (d := d + 3) (Q := Q) (fun j => [.ref 2, .ref r0, .int (nI (2 * j))]) (fun _ => (SH L, mi, ml, MR)) (fun _ => Q (some (.int (-3))) (SH L, xw (xw mi 2 10 (nI 3)) 67 3 (mi 67 3 + 1), ml, MR)) (fun j => ¬ goodA xs j) (xs.length / 2) (fun k hk hg => c147_step hS hst hn hx hev hk (Classical.not_not.mp hg)) (fun k hk hg => c147_bad hS hst hn hx hev hk hg) with ⟨j, _, _, _, h⟩ | ⟨h, _⟩
      · exact h
      · exact absurd ((allG_iff xs _).mpr (fun i hi => Classical.not_not.mp (h i hi))) h3
theorem pw_0 {x : Option (List Int32)} (h : pw x = 0) : ∃ xs, x = some xs ∧ xs.length = 2 * (xs.length / 2) ∧ ∀ i, i < xs.length / 2 → goodA xs i := by
  cases x with
  | none => cases h
  | some xs =>
    unfold pw at h
    simp only at h
    split at h
    · cases h
    · split at h
      · rename_i h1 h2
        exact ⟨xs, rfl, by omega, (allG_iff xs _).mp h2⟩
      · cases h
theorem c147_ok (hS : isStrip L r0 n) (h62 : r0 + 1 < 62) (hst : stR mi r0 (some xs)) (hn : n < 1000) (hx : xs.length ≤ n) (hev : xs.length = 2 * (xs.length / 2)) (hg : ∀ i, i < xs.length / 2 → goodA xs i) : Xm 147 [.ref 2, .ref r0] (SH L, mi, ml, MR) (d + 3) Q = Q (some (.int 0)) (SH L, clW mi xs 6, ml, MR) := by
  rw [c147_head hS hst hn hx hev]
  have hl := X_loop (mid := 147) (pc := 36) (d := d + 3) (Q := Q) (fun j => [.ref 2, .ref r0, .int (nI (2 * j))]) (fun _ => (SH L, mi, ml, MR)) (xs.length / 2) (fun k hk => c147_step hS hst hn hx hev hk (hg k hk))
  refine hl.trans ?_
  rw [s147_36 hS, c88 hS hst, ret1, s147_41 hS, if_neg (show ¬ nI (2 * (xs.length / 2)) < szI (some xs) from nI_nlt (by omega) (by omega)), c6 hS h62 hst hn hx hev hg, ret0, s147_88 hS]
/-! the model's -/
theorem rowAt {k j : Nat} : (40 : Int32) * nI k + nI j = nI (40 * k + j) := by rw [show (40 : Int32) = nI 40 from rfl, nI_mul, nI_add]
theorem c215 (hr : r < 6) (h : mR R mi) : Xm 215 [.ref 68, .int (nI r)] (SH L, mi, ml, MR) (d + 2) Q = Q (some (.int (nI (pw (R r))))) (SH L, mi, ml, MR) := by
  obtain ⟨h1, h2⟩ := h r hr
  have hx : xin (nI r) 6 = true := xin_nI hr (by omega)
  rw [s215 hx (fun _ => hx), nI_clamp (by omega), h1]
  cases hR : R r with
  | none => rw [if_pos (by decide)]; rfl
  | some xs =>
    obtain ⟨h3, h4⟩ := h2 xs hR
    rw [hR] at h1
    rw [if_neg (show ¬ szI (some xs) < 0 from nI_nneg (by omega)), show szI (some xs) = nI xs.length from rfl, rem2 (by omega)]
    by_cases ho : xs.length % 2 = 1
    · rw [ho, if_pos (by decide)]
      unfold pw
      simp only
      rw [if_pos ho]
      rfl
    · rw [show xs.length % 2 = 0 by omega, if_neg (by decide)]
      have hl := X_loop (mid := 215) (pc := 29) (d := d + 2) (Q := Q) (fun j => [.ref 68, .int (nI r), .int (bI (allG xs j = true)), .int (nI (2 * j))]) (fun _ => (SH L, mi, ml, MR)) (xs.length / 2) (fun j hj => by
        rw [s215_29 hx (fun _ _ => by rw [rowAt]; exact xin_nI (by omega) (by omega)), nI_clamp (by omega), h1, if_pos (show nI (2 * j) < szI (some xs) from nI_lt (by omega) (by omega)), show nI (2 * j) + 2 = nI (2 * (j + 1)) from nI_add (2 * j) 2]
        by_cases hg : allG xs j = true
        · rw [bI_t hg, if_neg i1_ne0, rowAt, nI_clamp (by omega), h4 _ (by omega), c173, ret1, s215_57 (fun _ => by rw [rowAt, nI_1]; exact xin_nI (by omega) (by omega)), rowAt, nI_1, nI_clamp (by omega), show 40 * r + 2 * j + 1 = 40 * r + (2 * j + 1) by omega, h4 _ (by omega), show (0 : Int64) = (0 : Int32).toInt64 from rfl, show (9 : Int64) = (nI 9).toInt64 from rfl, c149, ret1, s215_81, show nI (2 * j) + 2 = nI (2 * (j + 1)) from nI_add (2 * j) 2]
          have q1 : ∀ (x : Int32) (n : Nat), n < 100 → ((¬ x < 0 ∧ ¬ nI n < x) ↔ (¬ x < 0 ∧ x < nI (n + 1))) := fun x n hn => by
            rw [Int32.lt_iff_toInt_lt, Int32.lt_iff_toInt_lt, Int32.lt_iff_toInt_lt, nI_toInt (by omega), nI_toInt (by omega)]
            omega
          by_cases ha : ¬ xs.getD (2 * j) 0 < 0 ∧ xs.getD (2 * j) 0 < nI 9
          · rw [bI_t ((q1 _ 8 (by omega)).mpr ha), if_neg i1_ne0]
            by_cases hb : ¬ xs.getD (2 * j + 1) 0 < 0 ∧ xs.getD (2 * j + 1) 0 < nI 10
            · rw [bI_t ((q1 _ 9 (by omega)).mpr hb), if_neg i1_ne0, bI_t (show allG xs (j + 1) = true by unfold allG; rw [hg, decide_eq_true ⟨ha, hb⟩]; rfl)]
            · rw [bI_f (fun z => hb ((q1 _ 9 (by omega)).mp z)), if_pos rfl, bI_f (show ¬ allG xs (j + 1) = true by unfold allG; rw [decide_eq_false (fun z => hb z.2), Bool.and_false]; decide)]
          · rw [bI_f (fun z => ha ((q1 _ 8 (by omega)).mp z)), if_pos rfl, bI_f (show ¬ allG xs (j + 1) = true by unfold allG; rw [decide_eq_false (fun z => ha z.1), Bool.and_false]; decide)]
        · rw [bI_f hg, if_pos rfl, bI_f (show ¬ allG xs (j + 1) = true by unfold allG; rw [Bool.eq_false_iff.mpr hg, Bool.false_and]; decide)])
      refine hl.trans ?_
      rw [s215_29 hx (fun z => absurd z (by rw [nI_clamp (by omega), h1]; exact nI_nlt (by omega) (by omega))), nI_clamp (by omega), h1, if_neg (show ¬ nI (2 * (xs.length / 2)) < szI (some xs) from nI_nlt (by omega) (by omega))]
      unfold pw
      simp only
      rw [if_neg ho]
      by_cases hg : allG xs (xs.length / 2) = true
      · rw [bI_t hg, if_neg i1_ne0, if_pos hg]
        rfl
      · rw [bI_f hg, if_pos rfl, if_neg hg]
        rfl
theorem c216 (hr : r < 6) (h : mR R mi) (hR : R r = some xs) (hev : xs.length = 2 * (xs.length / 2)) (hg : ∀ i, i < xs.length / 2 → goodA xs i) (hk : kind < 6) (hs : seed < 10) : Xm 216 [.ref 68, .int (nI kind), .int (nI seed), .int (nI r)] (SH L, mi, ml, MR) (d + 1) Q = Q (some (.int (bI (fitB xs kind seed = true)))) (SH L, mi, ml, MR) := by
  obtain ⟨h1, h2⟩ := h r hr
  obtain ⟨h3, h4⟩ := h2 xs hR
  rw [hR] at h1
  have hx : xin (nI r) 6 = true := xin_nI hr (by omega)
  rw [s216]
  have hl := X_loop (mid := 216) (pc := 6) (d := d + 1) (Q := Q) (fun j => [.ref 68, .int (nI kind), .int (nI seed), .int (nI r), .int (bI (fitN xs kind seed j = true)), .int (nI (2 * j))]) (fun _ => (SH L, mi, ml, MR)) (xs.length / 2) (fun j hj => by
    obtain ⟨g1, g2, g3, g4⟩ := good_pod (hg j hj)
    have hw := wordN_lt kind seed (podN xs j)
    rw [s216_6 hx (fun _ _ => by rw [rowAt]; exact xin_nI (by omega) (by omega)) (fun _ => bI_or), nI_clamp (by omega), h1, if_pos (show nI (2 * j) < szI (some xs) from nI_lt (by omega) (by omega)), show nI (2 * j) + 2 = nI (2 * (j + 1)) from nI_add (2 * j) 2]
    by_cases hf : fitN xs kind seed j = true
    · rw [bI_t hf, if_neg i1_ne0, rowAt, nI_clamp (by omega), h4 _ (by omega), g1, c179 hk (by omega) (by omega), ret1, s216_39 (by rw [rowAt, nI_1]; exact xin_nI (by omega) (by omega)), rowAt, nI_1, nI_clamp (by omega), show 40 * r + 2 * j + 1 = 40 * r + (2 * j + 1) by omega, h4 _ (by omega), g3, show nI (2 * j) + 2 = nI (2 * (j + 1)) from nI_add (2 * j) 2]
      by_cases he : wordN kind seed (podN xs j) = wrdN xs j
      · rw [if_pos (congrArg nI he), bI_t (show fitN xs kind seed (j + 1) = true by unfold fitN; rw [hf, decide_eq_true he]; rfl)]
      · rw [if_neg (fun z => he (nI_inj (by omega) (by omega) z)), bI_f (show ¬ fitN xs kind seed (j + 1) = true by unfold fitN; rw [decide_eq_false he, Bool.and_false]; decide)]
    · rw [bI_f hf, if_pos rfl, bI_f (show ¬ fitN xs kind seed (j + 1) = true by unfold fitN; rw [Bool.eq_false_iff.mpr hf, Bool.false_and]; decide)])
  refine hl.trans ?_
  rw [s216_6 hx (fun z => absurd z (by rw [nI_clamp (by omega), h1]; exact nI_nlt (by omega) (by omega))) (fun _ => bI_or), nI_clamp (by omega), h1, if_neg (show ¬ nI (2 * (xs.length / 2)) < szI (some xs) from nI_nlt (by omega) (by omega))]
  rfl
end PAIRS
