/-! rows and texts -/
theorem num_cases (x : Int32) (n : Nat) (hn : n < 2 ^ 31) : (x < 0 ∨ ¬ x < nI n) ∨ ∃ k, k < n ∧ x = nI k := by
  rcases i32_cases x with h | ⟨k, hk, rfl⟩
  · exact Or.inl (Or.inl h)
  · by_cases h : k < n
    · exact Or.inr ⟨k, h, rfl⟩
    · exact Or.inl (Or.inr (nI_nlt (by omega) hk))
theorem bI_t {p : Prop} [Decidable p] (h : p) : bI p = 1 := if_pos h
theorem bI_f {p : Prop} [Decidable p] (h : ¬ p) : bI p = 0 := if_neg h
theorem i32_ge {x : Int32} {n : Nat} (hn : n < 2 ^ 31 - 1) (h : ¬ x < nI (n + 1)) : nI n < x := by
  rw [Int32.lt_iff_toInt_lt, nI_toInt (by omega)] at *
  omega
theorem in_ok {k n : Nat} (h : k ≤ n) (hn : n < 2 ^ 31) : ¬ nI k < 0 ∧ ¬ nI n < nI k := ⟨nI_nneg (by omega), nI_nlt h hn⟩
theorem in_bad {x : Int32} {n : Nat} (hn : n < 2 ^ 31 - 1) (h : x < 0 ∨ ¬ x < nI (n + 1)) : ¬ (¬ x < 0 ∧ ¬ nI n < x) := fun z => h.elim z.1 (fun z2 => z.2 (i32_ge hn z2))
theorem i1_ne0 : ¬ (1 : Int32) = 0 := by decide
theorem i3_ne0 : ¬ (-3 : Int32) = 0 := by decide
/-- a place that there is not, as the model asks it -/
theorem pred_bad {y : Int32} {xs : List Int32} (hl : xs.length < 1000) (h : y < 0 ∨ ¬ y < nI xs.length) : ¬ (¬ y < 0 ∧ ¬ szI (some xs) - 1 < y) := by
  rintro ⟨z1, z2⟩
  have h2 := h.resolve_left z1
  have e : (szI (some xs) - 1).toInt = (xs.length : Int) - 1 := by
    by_cases h0 : xs.length = 0
    · show (nI xs.length - 1).toInt = _
      rw [h0]
      decide
    · rw [show szI (some xs) - 1 = nI (xs.length - 1) from nI_sub (b := 1) (by omega), nI_toInt (by omega)]
      omega
  rw [Int32.lt_iff_toInt_lt] at z2 h2
  rw [nI_toInt (by omega)] at h2
  rw [e] at z2
  omega
section PLACE
variable {L : Nat} {mi : Nat → Nat → Int32} {ml : Nat → Nat → Int64} {d : Nat} {Q : Option Value → xM → Prop} {a n : Nat}
/-- holds(y, 1) -/
theorem c89_1 {xs : List Int32} {y : Int32} (hS : isStrip L a n) (h : stR mi a (some xs)) (hx : xs.length < 1000) : Xm 89 [.ref a, .int y, .int 1] (SH L, mi, ml, MR) d Q = Q (some (.int (bI (¬ y < 0 ∧ y < nI xs.length)))) (SH L, mi, ml, MR) := by
  rw [s89 hS, if_neg (by decide), h.1]
  by_cases h1 : y < 0
  · rw [if_pos h1, bI_f (fun z => z.1 h1)]
  · rw [if_neg h1, show (1 : Int32) = nI 1 from rfl]
    by_cases h0 : xs.length = 0
    · rw [if_pos (nI_lt (by omega) (by omega)), bI_f]
      rw [h0]
      exact fun z => h1 z.2
    · rw [if_neg (nI_nlt (by omega) (by omega)), nI_sub (by omega)]
      by_cases h2 : y < nI xs.length
      · have : ¬ nI (xs.length - 1) < y := by
          rw [Int32.lt_iff_toInt_lt, nI_toInt (by omega)] at *
          omega
        rw [if_neg this, bI_t ⟨h1, h2⟩]
        rfl
      · have : nI (xs.length - 1) < y := by
          rw [Int32.lt_iff_toInt_lt, nI_toInt (by omega)] at *
          omega
        rw [if_pos this, bI_f (fun z => h2 z.2)]
theorem c145_none {y : Int32} (hS : isStrip L a n) (h : stR mi a none) (hn : n < 1000) : Xm 145 [.ref 2, .ref a, .int y] (SH L, mi, ml, MR) (d + 2) Q = Q (some (.int (-3))) (SH L, xw (xw mi 2 10 (nI 1)) 67 1 (mi 67 1 + 1), ml, MR) := by
  rw [s145 hS, c87 (x := none) hS h hn (fun _ h => by cases h), ret1, s145_8 hS, bI_t rfl, if_neg i1_ne0, c141_1, ret1, s145_16v2 hS]
theorem c145_in {xs : List Int32} {y : Int32} (hS : isStrip L a n) (h : stR mi a (some xs)) (hn : n < 1000) (hx : xs.length ≤ n) (hy : ¬ y < 0 ∧ y < nI xs.length) : Xm 145 [.ref 2, .ref a, .int y] (SH L, mi, ml, MR) (d + 2) Q = Q (some (.int 0)) (SH L, mi, ml, MR) := by
  rw [s145 hS, c87 hS h hn (fun _ h => by cases h; exact hx), ret1, s145_8 hS, bI_f (by simp), if_pos rfl, c89_1 hS h (by omega), ret1, s145_23 hS, bI_t hy, if_neg i1_ne0]
theorem c145_out {xs : List Int32} {y : Int32} (hS : isStrip L a n) (h : stR mi a (some xs)) (hn : n < 1000) (hx : xs.length ≤ n) (hy : y < 0 ∨ ¬ y < nI xs.length) : Xm 145 [.ref 2, .ref a, .int y] (SH L, mi, ml, MR) (d + 2) Q = Q (some (.int (-3))) (SH L, xw (xw mi 2 10 (nI 2)) 67 2 (mi 67 2 + 1), ml, MR) := by
  rw [s145 hS, c87 hS h hn (fun _ h => by cases h; exact hx), ret1, s145_8 hS, bI_f (by simp), if_pos rfl, c89_1 hS h (by omega), ret1, s145_23 hS, bI_f (fun z => hy.elim z.1 (fun q => q z.2)), if_pos rfl, c141_2, ret1, s145_35 hS]
end PLACE
theorem ex_ret {V : Value → Prop} {fc fm : Nat} {as : List Value} {R T : pR} {P : pP} {D : List Nat} {K : Nat → Option (List Nat)} {S : pS} (v : Value) (hv : V v) (hok : ok P D K) (c : CC fc as (some v) R T P D K S R T P D K S) (m : MM fm as (some v) R T P D K S R T P D K S) : ∃ v R' T' P' D' K' S', V v ∧ ok P' D' K' ∧ CC fc as (some v) R T P D K S R' T' P' D' K' S' ∧ MM fm as (some v) R T P D K S R' T' P' D' K' S' := ⟨v, R, T, P, D, K, S, hv, hok, c, m⟩
theorem ex_S {V : Value → Prop} {fc fm : Nat} {as : List Value} {R T : pR} {P : pP} {D : List Nat} {K : Nat → Option (List Nat)} {S : pS} (v : Value) (S' : pS) (hv : V v) (hok : ok P D K) (c : CC fc as (some v) R T P D K S R T P D K S') (m : MM fm as (some v) R T P D K S R T P D K S') : ∃ v R' T' P' D' K' S', V v ∧ ok P' D' K' ∧ CC fc as (some v) R T P D K S R' T' P' D' K' S' ∧ MM fm as (some v) R T P D K S R' T' P' D' K' S' := ⟨v, R, T, P, D, K, S', hv, hok, c, m⟩
theorem op_asked : OpI 134 229 [] := op_of fun R T P D K S hok => ex_ret (.int S.1) ⟨_, rfl⟩ hok
  (fun L mi ml Q h k => by rw [s134, h.2.2.2.2.1]; exact k mi ml h sameM_rf) (fun L mi ml Q h k => by rw [s229, h.2.2.2.2.1]; exact k mi ml h sameC_rf)
theorem op_upper : OpL 135 230 [] := op_of fun R T P D K S hok => ex_ret (.long S.2.2.2.1) ⟨_, rfl⟩ hok
  (fun L mi ml Q h k => by rw [s135, h.2.2.2.2.2.2.2.1]; exact k mi ml h sameM_rf) (fun L mi ml Q h k => by rw [s230, h.2.2.2.2.2.2.2.1]; exact k mi ml h sameC_rf)
theorem op_lower : OpL 136 231 [] := op_of fun R T P D K S hok => ex_ret (.long S.2.2.2.2) ⟨_, rfl⟩ hok
  (fun L mi ml Q h k => by rw [s136, h.2.2.2.2.2.2.2.2]; exact k mi ml h sameM_rf) (fun L mi ml Q h k => by rw [s231, h.2.2.2.2.2.2.2.2]; exact k mi ml h sameC_rf)
theorem op_finding : OpI 138 235 [] := op_of fun R T P D K S hok => ex_ret (.int S.2.1) ⟨_, rfl⟩ hok
  (fun L mi ml Q h k => by rw [s138, h.2.2.2.2.2.1]; exact k mi ml h sameM_rf) (fun L mi ml Q h k => by rw [s235, h.2.2.2.2.2.1]; exact k mi ml h sameC_rf)
theorem op_findings (x : Int32) : OpI 139 236 [.int x] := op_of fun R T P D K S hok => by
  rcases num_cases x 6 (by omega) with hx | ⟨f, hf, rfl⟩
  · refine ex_ret (.int (-1)) ⟨_, rfl⟩ hok (fun L mi ml Q h k => ?_) (fun L mi ml Q h k => ?_)
    · have h1 : ¬ (¬ x < 1 ∧ ¬ 5 < x) := by
        rintro ⟨z1, z2⟩
        rcases hx with hx | hx
        · exact z1 (by rw [Int32.lt_iff_toInt_lt] at *; have : (1 : Int32).toInt = 1 := rfl; have : (0 : Int32).toInt = 0 := rfl; omega)
        · exact z2 (i32_ge (n := 5) (by omega) hx)
      rw [s139 (fun a b _ => absurd ⟨a, b⟩ h1)]
      by_cases h2 : x < 1
      · rw [if_pos h2]; exact k mi ml h sameM_rf
      · rw [if_neg h2]
        have h3 : (5 : Int32) < x := Classical.byContradiction fun z => h1 ⟨h2, z⟩
        rw [if_pos h3]; exact k mi ml h sameM_rf
    · have h1 : ¬ (¬ x < 1 ∧ ¬ 5 < x) := by
        rintro ⟨z1, z2⟩
        rcases hx with hx | hx
        · exact z1 (by rw [Int32.lt_iff_toInt_lt] at *; have : (1 : Int32).toInt = 1 := rfl; have : (0 : Int32).toInt = 0 := rfl; omega)
        · exact z2 (i32_ge (n := 5) (by omega) hx)
      rw [s236, show (1 : Int64) = (1 : Int32).toInt64 from rfl, show (5 : Int64) = (5 : Int32).toInt64 from rfl, c149, ret1, bI_f h1, s236_9 (fun z => absurd rfl z), if_pos rfl]
      exact k mi ml h sameC_rf
  · by_cases h0 : f = 0
    · subst h0
      refine ex_ret (.int (-1)) ⟨_, rfl⟩ hok (fun L mi ml Q h k => ?_) (fun L mi ml Q h k => ?_)
      · rw [s139 (fun _ _ _ => by decide), if_pos (by decide)]; exact k mi ml h sameM_rf
      · rw [s236, show (1 : Int64) = (1 : Int32).toInt64 from rfl, show (5 : Int64) = (5 : Int32).toInt64 from rfl, c149, ret1, bI_f (by decide), s236_9 (fun z => absurd rfl z), if_pos rfl]
        exact k mi ml h sameC_rf
    · refine ex_ret (.int (S.2.2.1 f)) ⟨_, rfl⟩ hok (fun L mi ml Q h k => ?_) (fun L mi ml Q h k => ?_)
      · rw [s139 (fun _ _ _ => xin_nI hf (by omega)), if_neg (show ¬ nI f < 1 from nI_nlt (b := 1) (by omega) (by omega)), if_neg (show ¬ 5 < nI f from nI_nlt (a := 5) (by omega) (by omega)), if_pos (show nI f < 6 from nI_lt (b := 6) hf (by omega)), nI_clamp (by omega), h.2.2.2.2.2.2.1 f hf]
        exact k mi ml h sameM_rf
      · rw [s236, show (1 : Int64) = (1 : Int32).toInt64 from rfl, show (5 : Int64) = (5 : Int32).toInt64 from rfl, c149, ret1, bI_t ⟨show ¬ nI f < 1 from nI_nlt (b := 1) (by omega) (by omega), show ¬ 5 < nI f from nI_nlt (a := 5) (by omega) (by omega)⟩, s236_9 (fun _ => xin_nI hf (by omega)), if_neg i1_ne0, nI_clamp (by omega), h.2.2.2.2.2.2.1 f hf]
        exact k mi ml h sameC_rf
theorem op_at (x y : Int32) : OpI 101 159 [.int x, .int y] := op_of fun R T P D K S hok => by
  rcases num_cases x 6 (by omega) with hx | ⟨r, hr, rfl⟩
  · refine ex_ret (.int (-1)) ⟨_, rfl⟩ hok (fun L mi ml Q h k => ?_) (fun L mi ml Q h k => ?_)
    · rw [s101, c82n (shRows L) (by omega) (by omega) hx, ret1, s101_8n]; exact k mi ml h sameM_rf
    · rw [s159, c155, ret1, bI_f (in_bad (n := 5) (by omega) hx), s159_4 (fun z => absurd rfl z) (fun z => absurd rfl z), if_pos rfl]; exact k mi ml h sameC_rf
  · have hS := fun L => ((shRows L).2 r hr).2
    cases hR : R r with
    | none =>
      refine ex_S (.int (-3)) (sFound 1 S) ⟨_, rfl⟩ hok (fun L mi ml Q h k => ?_) (fun L mi ml Q h k => ?_)
      · have hst := (h.1 r hr).1
        rw [hR] at hst
        rw [s101, c82 (shRows L) (by omega) hr, ret1, s101_8 (hS L), c145_none (hS L) hst (by omega), ret1, s101_21 (hS L), if_neg i3_ne0]
        exact k _ _ (Cst_found hok.1.1 h).1 (Cst_found hok.1.1 h).2
      · have hst := (h.1 r hr).1
        rw [hR] at hst
        rw [s159, c155, ret1, bI_t (in_ok (n := 5) (by omega) (by omega)), s159_4 (fun _ => xin_nI hr (by omega)) (fun _ _ => xin_nI hr (by omega)), if_neg i1_ne0, nI_clamp (by omega), hst, if_pos (by decide), c152_1, ret1, s159_23]
        exact k _ _ (Mst_found h).1 (Mst_found h).2
    | some xs =>
      by_cases hy : ¬ y < 0 ∧ y < nI xs.length
      · obtain ⟨j, hj, rfl⟩ : ∃ j, j < 2 ^ 31 ∧ y = nI j := (i32_cases y).resolve_left hy.1
        refine ex_S (.int 1) (sTold (xs.getD j 0) S) ⟨_, rfl⟩ hok (fun L mi ml Q h k => ?_) (fun L mi ml Q h k => ?_)
        · have hst := (h.1 r hr).1
          have hln := (h.1 r hr).2 xs hR
          rw [hR] at hst
          rw [s101, c82 (shRows L) (by omega) hr, ret1, s101_8 (hS L), c145_in (hS L) hst (by omega) hln hy, ret1, s101_21 (hS L), if_pos rfl, c90 (hS L) hst (by omega) hln hj, ret1, s101_37 (hS L)]
          exact k _ _ (Cst_told hok.1.1 h).1 (Cst_told hok.1.1 h).2
        · have hst := (h.1 r hr).1
          obtain ⟨hln, hcon⟩ := (h.1 r hr).2 xs hR
          rw [hR] at hst
          have hj2 : j < xs.length := (nI_ltI hj (by omega)).mp hy.2
          rw [s159, c155, ret1, bI_t (in_ok (n := 5) (by omega) (by omega)), s159_4 (fun _ => xin_nI hr (by omega)) (fun _ _ => xin_nI hr (by omega)), if_neg i1_ne0, nI_clamp (by omega), hst, if_neg (show ¬ szI (some xs) < 0 from nI_nneg (by omega)), show (0 : Int64) = (0 : Int32).toInt64 from rfl, c149, ret1]
          have e1 : szI (some xs) - 1 = nI (xs.length - 1) := nI_sub (b := 1) (by omega)
          rw [e1, bI_t (in_ok (by omega) (by omega))]
          have e2 : (40 : Int32) * nI r + nI j = nI (40 * r + j) := by rw [show (40 : Int32) = nI 40 from rfl, nI_mul, nI_add]
          rw [s159_39 (fun _ => by rw [e2]; exact xin_nI (by omega) (by omega)), if_neg i1_ne0, e2, nI_clamp (by omega), hcon j hj2, s153, ret1, s159_57]
          exact k _ _ (Mst_told h).1 (Mst_told h).2
      · have hy2 : y < 0 ∨ ¬ y < nI xs.length := by
          by_cases h1 : y < 0
          · exact Or.inl h1
          · exact Or.inr (fun h2 => hy ⟨h1, h2⟩)
        refine ex_S (.int (-3)) (sFound 2 S) ⟨_, rfl⟩ hok (fun L mi ml Q h k => ?_) (fun L mi ml Q h k => ?_)
        · have hst := (h.1 r hr).1
          have hln := (h.1 r hr).2 xs hR
          rw [hR] at hst
          rw [s101, c82 (shRows L) (by omega) hr, ret1, s101_8 (hS L), c145_out (hS L) hst (by omega) hln hy2, ret1, s101_21 (hS L), if_neg i3_ne0]
          exact k _ _ (Cst_found hok.1.1 h).1 (Cst_found hok.1.1 h).2
        · have hst := (h.1 r hr).1
          obtain ⟨hln, hcon⟩ := (h.1 r hr).2 xs hR
          rw [hR] at hst
          rw [s159, c155, ret1, bI_t (in_ok (n := 5) (by omega) (by omega)), s159_4 (fun _ => xin_nI hr (by omega)) (fun _ _ => xin_nI hr (by omega)), if_neg i1_ne0, nI_clamp (by omega), hst, if_neg (show ¬ szI (some xs) < 0 from nI_nneg (by omega)), show (0 : Int64) = (0 : Int32).toInt64 from rfl, c149, ret1]
          rw [bI_f (pred_bad (by omega) hy2), s159_39 (fun z => absurd rfl z), if_pos rfl, c152_2, ret1, s159_65]
          exact k _ _ (Mst_found h).1 (Mst_found h).2
