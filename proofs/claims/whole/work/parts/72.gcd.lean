/-! the greatest common measure, powers -/
theorem lg_ne {x : Int64} (h : ¬ lg_cmp x 0 = 0) : ¬ x = 0 := fun z => h (by rw [z]; rfl)
theorem gcd_step {a b : Nat} : Nat.gcd b (a % b) = Nat.gcd a b := by
  rw [Nat.gcd_comm a b, Nat.gcd_rec b a, Nat.gcd_comm]
theorem rem_half {a b : Nat} (hb : 0 < b) : a % b = 0 ∨ 2 * (b % (a % b)) < b := by
  rcases Nat.eq_zero_or_pos (a % b) with h | h
  · exact Or.inl h
  · right
    have h1 : a % b < b := Nat.mod_lt _ hb
    have h2 : b % (a % b) < a % b := Nat.mod_lt _ h
    have h3 := Nat.div_add_mod b (a % b)
    have h4 : 1 ≤ b / (a % b) := (Nat.one_le_div_iff h).mpr (by omega)
    have h5 : a % b ≤ (a % b) * (b / (a % b)) := Nat.le_mul_of_pos_right _ h4
    omega
section GCD
variable {L : Nat} {mi : Nat → Nat → Int32} {ml : Nat → Nat → Int64} {d : Nat} {Q : Option Value → xM → Prop} {u l : Nat}
theorem c1_end {u10 : Value} {a c : Nat} (ha : 0 < a) (ha2 : a < 2 ^ 62) (hu : u < 2 ^ 62) (hl : l < 2 ^ 62) (hc : c < 200) : X 1 9 [.ref 65, .long (nL u), xmk, .long (nL l), xmk, .long (nL a), xmk, .long (nL 0), xmk, .int (nI c), u10, xmk] [] (SH L, mi, ml, MR) d Q = Q none (SH L, mi, xw (xw ml 65 1 (nL (u / a))) 65 2 (nL (l / a)), MR) := by
  rw [s1_9g (fun _ _ z => lg_ne z) (fun _ _ z => lg_ne z) (fun _ z => lg_ne z) (fun _ z => lg_ne z) (fun _ z => lg_ne z), if_pos (show nI c < 200 from nI_lt (b := 200) hc (by omega)), if_pos ((lg_eq0 (by omega)).mpr rfl), if_neg (fun z => by have := (lg_eq0 (r := a) (by omega)).mp z; omega), nL_div (by omega) (by omega), nL_div (by omega) (by omega)]
theorem c1_step {u10 : Value} {a b c : Nat} (hb : 0 < b) (ha2 : a < 2 ^ 62) (hb2 : b < 2 ^ 62) (hc : c < 200) : X 1 9 [.ref 65, .long (nL u), xmk, .long (nL l), xmk, .long (nL a), xmk, .long (nL b), xmk, .int (nI c), u10, xmk] [] (SH L, mi, ml, MR) d Q = X 1 9 [.ref 65, .long (nL u), xmk, .long (nL l), xmk, .long (nL b), xmk, .long (nL (a % b)), xmk, .int (nI (c + 1)), .long (nL (a % b)), xmk] [] (SH L, mi, ml, MR) d Q := by
  rw [s1_9g (fun _ _ z => lg_ne z) (fun _ _ z => lg_ne z) (fun _ z => lg_ne z) (fun _ z => lg_ne z) (fun _ z => lg_ne z), if_pos (show nI c < 200 from nI_lt (b := 200) hc (by omega)), if_neg (fun z => by have := (lg_eq0 (r := b) (by omega)).mp z; omega), nL_rem (by omega) (by omega), nI_1]
theorem c1_loop (hu : u < 2 ^ 62) (hl : l < 2 ^ 62) : ∀ k a b c u10, b < 2 ^ k → k ≤ 62 → c + 2 * k + 1 ≤ 199 → a < 2 ^ 62 → (0 < a ∨ 0 < b) → X 1 9 [.ref 65, .long (nL u), xmk, .long (nL l), xmk, .long (nL a), xmk, .long (nL b), xmk, .int (nI c), u10, xmk] [] (SH L, mi, ml, MR) d Q = Q none (SH L, mi, xw (xw ml 65 1 (nL (u / Nat.gcd a b))) 65 2 (nL (l / Nat.gcd a b)), MR) := by
  intro k
  induction k with
  | zero =>
    intro a b c u10 hb hk hc ha h0
    have e : b = 0 := by omega
    subst e
    rw [c1_end (by omega) ha hu hl (by omega), Nat.gcd_zero_right]
  | succ k ih =>
    intro a b c u10 hb hk hc ha h0
    have hk2 : 2 ^ (k + 1) ≤ 2 ^ 62 := Nat.pow_le_pow_right (by omega) hk
    rcases Nat.eq_zero_or_pos b with hb0 | hb0
    · subst hb0
      rw [c1_end (by omega) ha hu hl (by omega), Nat.gcd_zero_right]
    · have hm : a % b < b := Nat.mod_lt _ hb0
      rw [c1_step hb0 ha (by omega) (by omega), ← gcd_step (a := a) (b := b)]
      rcases rem_half (a := a) hb0 with hr | hr
      · rw [hr, c1_end hb0 (by omega) hu hl (by omega), Nat.gcd_zero_right]
      · rcases Nat.eq_zero_or_pos (a % b) with hz | hz
        · rw [hz, c1_end hb0 (by omega) hu hl (by omega), Nat.gcd_zero_right]
        · rw [c1_step hz (by omega) (by omega) (by omega), ← gcd_step (a := b) (b := a % b)]
          rw [Nat.pow_succ] at hb
          exact ih _ _ _ _ (by omega) (by omega) (by omega) (by omega) (Or.inl hz)
theorem c1 (hu : u < 2 ^ 62) (hl : l < 2 ^ 62) (hl0 : 0 < l) : Xm 1 [.ref 65, .long (nL u), .long (nL l)] (SH L, mi, ml, MR) d Q = Q none (SH L, mi, xw (xw ml 65 1 (nL (u / Nat.gcd u l))) 65 2 (nL (l / Nat.gcd u l)), MR) := by
  rw [s1]
  exact c1_loop hu hl 62 u l 0 _ hl (by omega) (by omega) hu (Or.inr hl0)
theorem c211_loop (hu : u < 2 ^ 62) (hl : l < 2 ^ 62) : ∀ b a u9, b < 2 ^ 62 → a < 2 ^ 62 → (0 < a ∨ 0 < b) → X 211 6 [.ref 68, .long (nL u), xmk, .long (nL l), xmk, .long (nL a), xmk, .long (nL b), xmk, u9, xmk] [] (SH L, mi, ml, MR) d Q = Q (some (.int 1)) (SH L, mi, xw (xw ml 68 15 (nL (u / Nat.gcd a b))) 68 16 (nL (l / Nat.gcd a b)), MR) := by
  intro b
  induction b using Nat.strongRecOn with
  | ind b ih =>
    intro a u9 hb ha h0
    have hx : lg_cmp (nL b) 0 = 0 → ¬ nL a = 0 := fun z => by
      have := (lg_eq0 (r := b) (by omega)).mp z
      exact nL_ne0 (by omega) (by omega)
    rw [s211_6g hx hx (fun z => lg_ne z)]
    rcases Nat.eq_zero_or_pos b with hb0 | hb0
    · subst hb0
      rw [if_pos ((lg_eq0 (by omega)).mpr rfl), nL_div (by omega) (by omega), nL_div (by omega) (by omega), Nat.gcd_zero_right]
    · have hm : a % b < b := Nat.mod_lt _ hb0
      rw [if_neg (fun z => by have := (lg_eq0 (r := b) (by omega)).mp z; omega), nL_rem (by omega) (by omega), ih _ hm b _ (by omega) hb (Or.inl hb0), gcd_step]
theorem c211 (hu : u < 2 ^ 62) (hl : l < 2 ^ 62) (hl0 : 0 < l) : Xm 211 [.ref 68, .long (nL u), .long (nL l)] (SH L, mi, ml, MR) d Q = Q (some (.int 1)) (SH L, mi, xw (xw ml 68 15 (nL (u / Nat.gcd u l))) 68 16 (nL (l / Nat.gcd u l)), MR) := by
  rw [s211]
  exact c211_loop hu hl l u _ hl hu (Or.inr hl0)
theorem c4 {b n : Nat} (hn : n < 1000) : Xm 4 [.long (nL b), .int (nI n)] (SH L, mi, ml, MR) d Q = Q (some (.long (nL (b ^ n)))) (SH L, mi, ml, MR) := by
  rw [s4]
  have hl := X_loop (mid := 4) (pc := 5) (d := d) (Q := Q) (fun k => [.long (nL b), xmk, .int (nI n), .long (nL (b ^ k)), xmk, .int (nI k)]) (fun _ => (SH L, mi, ml, MR)) n (fun k hk => by
    rw [s4_5, if_pos (nI_lt hk (by omega)), nL_mul, nI_1]
    rfl)
  refine hl.trans ?_
  rw [s4_5, if_neg (nI_nlt (by omega) (by omega))]
theorem c224 {b n : Nat} (hn : n < 1000) : Xm 224 [.long (nL b), .int (nI n)] (SH L, mi, ml, MR) d Q = Q (some (.long (nL (b ^ n)))) (SH L, mi, ml, MR) := by
  rw [s224]
  have hl := X_loop (mid := 224) (pc := 5) (d := d) (Q := Q) (fun k => [.long (nL b), xmk, .int (nI n), .long (nL (b ^ k)), xmk, .int (nI k)]) (fun _ => (SH L, mi, ml, MR)) n (fun k hk => by
    rw [s224_5, if_pos (nI_lt hk (by omega)), nL_mul, nI_1]
    rfl)
  refine hl.trans ?_
  rw [s224_5, if_neg (nI_nlt (by omega) (by omega))]
end GCD
section CHST
variable {R T : pR} {P : pP} {D : List Nat} {K : Nat → Option (List Nat)} {S : pS} {mi : Nat → Nat → Int32} {ml : Nat → Nat → Int64} {a b : Int64}
theorem Cst_chance (h : Cst R T P D K S mi ml) : Cst R T P D K (sChance a b S) mi (xw (xw ml 65 1 a) 65 2 b) ∧ sameM mi mi ml (xw (xw ml 65 1 a) 65 2 b) := by
  refine ⟨⟨h.1, h.2.1, h.2.2.1, h.2.2.2.1, h.2.2.2.2.1, h.2.2.2.2.2.1, h.2.2.2.2.2.2.1, ?_, ?_⟩, fun _ _ _ => rfl, fun c j hc => ?_⟩
  · rw [xw_eq, if_neg (by omega), xw_eq, if_pos rfl]
    rfl
  · rw [xw_eq, if_pos rfl]
    rfl
  · rw [xw_ne (by omega), xw_ne (by omega)]
theorem Mst_chance (h : Mst R T P D K S mi ml) : Mst R T P D K (sChance a b S) mi (xw (xw ml 68 15 a) 68 16 b) ∧ sameC mi mi ml (xw (xw ml 68 15 a) 68 16 b) := by
  refine ⟨⟨h.1, h.2.1, h.2.2.1, h.2.2.2.1, h.2.2.2.2.1, h.2.2.2.2.2.1, h.2.2.2.2.2.2.1, ?_, ?_⟩, fun _ _ _ => rfl, fun c j hc => ?_⟩
  · rw [xw_eq, if_neg (by omega), xw_eq, if_pos rfl]
    rfl
  · rw [xw_eq, if_pos rfl]
    rfl
  · rw [xw_ne (by omega), xw_ne (by omega)]
end CHST
