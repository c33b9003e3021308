/-! reading a text -/
def kindN (x : Int32) : Option Nat := if x = 98 then some 0 else if x = 114 then some 1 else if x = 100 then some 2 else if x = 111 then some 3 else if x = 99 then some 4 else if x = 115 then some 5 else none
def figN (l x : Int32) : Option Nat := if ¬ x - 48 < l ∧ ¬ 9 < x - 48 then some (x - 48).toNatClampNeg else none
def valN (m : Nat) (x : Int32) : Option Nat := if m % 4 = 0 then (if m / 4 = 6 then none else kindN x) else figN (if m % 4 = 2 then 1 else 0) x
def optI (n : Int32) (o : Option Nat) : Int32 := match o with
  | none => n
  | some v => nI v
theorem kindN_lt {x : Int32} {v : Nat} (h : kindN x = some v) : v < 6 := by
  unfold kindN at h
  repeat' split at h
  all_goals first | (cases h; omega) | cases h
theorem figN_some {l x : Int32} {v : Nat} (hl : l = 0 ∨ l = 1) (h : figN l x = some v) : x - 48 = nI v ∧ v < 10 ∧ (l = 1 → 1 ≤ v) := by
  unfold figN at h
  split at h
  · rename_i hc
    cases h
    have i0 : (0 : Int32).toInt = 0 := rfl
    have i1 : (1 : Int32).toInt = 1 := rfl
    have i9 : (9 : Int32).toInt = 9 := rfl
    obtain ⟨h1, h2⟩ := hc
    rcases hl with rfl | rfl
    · obtain ⟨k, hk, e⟩ : ∃ k, k < 2 ^ 31 ∧ x - 48 = nI k := (i32_cases _).resolve_left h1
      rw [e] at h2 ⊢
      rw [nI_clamp hk]
      rw [Int32.lt_iff_toInt_lt, nI_toInt hk] at h2
      exact ⟨rfl, by omega, fun z => by cases z⟩
    · obtain ⟨k, hk, e⟩ : ∃ k, k < 2 ^ 31 ∧ x - 48 = nI k := (i32_cases _).resolve_left (fun z => h1 (by rw [Int32.lt_iff_toInt_lt] at *; omega))
      rw [e] at h1 h2 ⊢
      rw [nI_clamp hk]
      rw [Int32.lt_iff_toInt_lt, nI_toInt hk] at h1 h2
      exact ⟨rfl, by omega, fun _ => by omega⟩
  · cases h
theorem fig_if {l x : Int32} {A : Int32 → Prop} (hl : l = 0 ∨ l = 1) : (if x - 48 < l then A (-9) else if 9 < x - 48 then A (-9) else A (x - 48)) = A (optI (-9) (figN l x)) := by
  cases hf : figN l x with
  | none =>
    have hc : ¬ (¬ x - 48 < l ∧ ¬ 9 < x - 48) := fun z => by
      unfold figN at hf
      rw [if_pos z] at hf
      cases hf
    by_cases h1 : x - 48 < l
    · rw [if_pos h1]; rfl
    · rw [if_neg h1, if_pos (Classical.not_not.mp (fun z => hc ⟨h1, z⟩))]; rfl
  | some v =>
    have hs := figN_some hl hf
    have hc : ¬ x - 48 < l ∧ ¬ 9 < x - 48 := by
      unfold figN at hf
      split at hf
      · assumption
      · cases hf
    rw [if_neg hc.1, if_neg hc.2, hs.1]
    rfl
def scan (xs : List Int32) : Nat → Nat → List Nat → Option Nat × List Nat
  | 0, _, ps => (none, ps)
  | n + 1, i, ps => if ps.length % 4 = 0 ∧ xs.getD i 0 = 32 then scan xs n (i + 1) ps else match valN ps.length (xs.getD i 0) with
    | none => (some i, ps)
    | some v => scan xs n (i + 1) (ps ++ [v])
theorem scan_blank {xs : List Int32} {n i : Nat} {ps : List Nat} (h : ps.length % 4 = 0) (hx : xs.getD i 0 = 32) : scan xs (n + 1) i ps = scan xs n (i + 1) ps := by
  show (if ps.length % 4 = 0 ∧ xs.getD i 0 = 32 then _ else _) = _
  rw [if_pos ⟨h, hx⟩]
theorem scan_none {xs : List Int32} {n i : Nat} {ps : List Nat} (h : ¬ (ps.length % 4 = 0 ∧ xs.getD i 0 = 32)) (hv : valN ps.length (xs.getD i 0) = none) : scan xs (n + 1) i ps = (some i, ps) := by
  show (if ps.length % 4 = 0 ∧ xs.getD i 0 = 32 then _ else _) = _
  rw [if_neg h, hv]
theorem scan_some {xs : List Int32} {n i v : Nat} {ps : List Nat} (h : ¬ (ps.length % 4 = 0 ∧ xs.getD i 0 = 32)) (hv : valN ps.length (xs.getD i 0) = some v) : scan xs (n + 1) i ps = scan xs n (i + 1) (ps ++ [v]) := by
  show (if ps.length % 4 = 0 ∧ xs.getD i 0 = 32 then _ else _) = _
  rw [if_neg h, hv]
abbrev okR (r : Option Nat × List Nat) : Prop := r.1 = none ∧ 0 < r.2.length ∧ r.2.length % 4 = 0
def fltV (size : Nat) (r : Option Nat × List Nat) : Int32 := match r.1 with
  | some i => nI i
  | none => if 0 < r.2.length ∧ r.2.length % 4 = 0 then -9 else nI size
def psOK (ps : List Nat) : Prop := ps.length ≤ 24 ∧ ∀ j, j < ps.length → ps.getD j 0 < 10 ∧ (j % 4 = 0 → ps.getD j 0 < 6) ∧ (j % 4 = 2 → 1 ≤ ps.getD j 0)
theorem getD_add {ps : List Nat} {v j : Nat} : (ps ++ [v]).getD j 0 = if j < ps.length then ps.getD j 0 else if j = ps.length then v else 0 := by
  rw [List.getD_eq_getElem?_getD, List.getD_eq_getElem?_getD]
  by_cases h : j < ps.length
  · rw [if_pos h, List.getElem?_append_left h]
  · rw [if_neg h]
    by_cases h2 : j = ps.length
    · subst h2; simp
    · rw [if_neg h2, List.getElem?_eq_none (by simp; omega)]
      rfl
theorem psOK_add {ps : List Nat} {v : Nat} {x : Int32} (h : psOK ps) (hv : valN ps.length x = some v) : psOK (ps ++ [v]) := by
  have hl : ps.length < 24 := by
    rcases Nat.lt_or_ge ps.length 24 with h1 | h1
    · exact h1
    · have := h.1
      have e : ps.length = 24 := by omega
      rw [e] at hv
      cases hv
  refine ⟨by rw [List.length_append, List.length_singleton]; omega, fun j hj => ?_⟩
  rw [List.length_append, List.length_singleton] at hj
  rw [getD_add]
  by_cases hc : j < ps.length
  · rw [if_pos hc]
    exact h.2 j hc
  · have e : j = ps.length := by omega
    subst e
    rw [if_neg hc, if_pos rfl]
    unfold valN at hv
    by_cases h4 : ps.length % 4 = 0
    · rw [if_pos h4] at hv
      split at hv
      · cases hv
      · have := kindN_lt hv
        exact ⟨by omega, fun _ => this, by omega⟩
    · rw [if_neg h4] at hv
      have hs := figN_some (by split; exact Or.inr rfl; exact Or.inl rfl) hv
      exact ⟨hs.2.1, by omega, fun z => hs.2.2 (by rw [if_pos z])⟩
theorem scan_ok (xs : List Int32) : ∀ n i ps, psOK ps → psOK (scan xs n i ps).2 := by
  intro n
  induction n with
  | zero => intro i ps h; exact h
  | succ n ih =>
    intro i ps h
    by_cases hb : ps.length % 4 = 0 ∧ xs.getD i 0 = 32
    · rw [scan_blank hb.1 hb.2]; exact ih _ _ h
    · cases hv : valN ps.length (xs.getD i 0) with
      | none => rw [scan_none hb hv]; exact h
      | some v => rw [scan_some hb hv]; exact ih _ _ (psOK_add h hv)
theorem sh36 (L : Nat) : isStrip L 36 24 := ⟨rfl, SH_ref (by decide +kernel), rfl⟩
theorem rem4 {k : Nat} (h : k < 2 ^ 31) : nI k - nI k / 4 * 4 = nI (k % 4) := nI_rem (b := 4) h (by omega)
section READ
variable {T : pR} {L : Nat} {mi : Nat → Nat → Int32} {ml : Nat → Nat → Int64} {d : Nat} {Q : Option Value → xM → Prop} {t r1 cap : Nat} {xs : List Int32} {ps : List Nat}
theorem c44 {x : Int32} (h : lets mi) : Xm 44 [.int x] (SH L, mi, ml, MR) d Q = Q (some (.int (optI (-9) (kindN x)))) (SH L, mi, ml, MR) := by
  have step : ∀ k, k < 6 → X 44 2 [.int x, .int (nI k)] [] (SH L, mi, ml, MR) d Q = if ltrI k = x then Q (some (.int (nI k))) (SH L, mi, ml, MR) else X 44 2 [.int x, .int (nI (k + 1))] [] (SH L, mi, ml, MR) d Q := fun k hk => by
    rw [s44_2 (fun _ => xin_nI hk (by omega)), if_pos (show nI k < 6 from nI_lt (b := 6) hk (by omega)), nI_clamp (by omega), h k hk, nI_1]
  have last : X 44 2 [.int x, .int (nI 6)] [] (SH L, mi, ml, MR) d Q = Q (some (.int (-9))) (SH L, mi, ml, MR) := by
    rw [s44_2 (fun z => absurd z (by decide)), if_neg (by decide)]
  rw [s44]
  refine (step 0 (by omega)).trans ?_
  unfold kindN
  by_cases h0 : x = 98
  · rw [if_pos (show ltrI 0 = x from h0.symm), if_pos h0]; rfl
  rw [if_neg (show ¬ ltrI 0 = x from fun z => h0 z.symm), if_neg h0, step 1 (by omega)]
  by_cases h1 : x = 114
  · rw [if_pos (show ltrI 1 = x from h1.symm), if_pos h1]; rfl
  rw [if_neg (show ¬ ltrI 1 = x from fun z => h1 z.symm), if_neg h1, step 2 (by omega)]
  by_cases h2 : x = 100
  · rw [if_pos (show ltrI 2 = x from h2.symm), if_pos h2]; rfl
  rw [if_neg (show ¬ ltrI 2 = x from fun z => h2 z.symm), if_neg h2, step 3 (by omega)]
  by_cases h3 : x = 111
  · rw [if_pos (show ltrI 3 = x from h3.symm), if_pos h3]; rfl
  rw [if_neg (show ¬ ltrI 3 = x from fun z => h3 z.symm), if_neg h3, step 4 (by omega)]
  by_cases h4 : x = 99
  · rw [if_pos (show ltrI 4 = x from h4.symm), if_pos h4]; rfl
  rw [if_neg (show ¬ ltrI 4 = x from fun z => h4 z.symm), if_neg h4, step 5 (by omega)]
  by_cases h5 : x = 115
  · rw [if_pos (show ltrI 5 = x from h5.symm), if_pos h5]; rfl
  rw [if_neg (show ¬ ltrI 5 = x from fun z => h5 z.symm), if_neg h5, last]
  rfl
theorem c167 {x : Int32} : Xm 167 [.int x] (SH L, mi, ml, MR) d Q = Q (some (.int (optI (-1) (kindN x)))) (SH L, mi, ml, MR) := by
  rw [s167]
  unfold kindN
  repeat' split
  all_goals rfl
theorem c65 {x : Int32} (h : lets mi) (hst : stR mi 36 (some (ps.map nI))) (hl : ps.length ≤ 24) : Xm 65 [.ref 35, .int x] (SH L, mi, ml, MR) (d + 2) Q = Q (some (.int (optI (-9) (valN ps.length x)))) (SH L, mi, ml, MR) := by
  have e : szI (some (ps.map nI)) = nI ps.length := congrArg nI (List.length_map _)
  rw [s65, c88 (sh36 L) hst, ret1, s65_7, e, rem4 (by omega)]
  unfold valN
  rcases (by omega : ps.length % 4 = 0 ∨ ps.length % 4 = 1 ∨ ps.length % 4 = 2 ∨ ps.length % 4 = 3) with h4 | h4 | h4 | h4
  · rw [h4, if_pos (by decide), s66, c88 (sh36 L) hst, ret1, s66_7, ret1, s65_18, e, show nI ps.length / 4 = nI (ps.length / 4) from nI_div (b := 4) (by omega) (by omega), if_pos rfl]
    by_cases h6 : ps.length / 4 = 6
    · rw [h6, if_pos (by decide), if_pos rfl]; rfl
    · rw [if_neg (show ¬ nI (ps.length / 4) = 6 from fun z => h6 (nI_inj (b := 6) (by omega) (by omega) z)), if_neg h6, c44 h, ret1, s65_32]
  · rw [h4, if_neg (by decide), if_neg (by decide)]
    exact fig_if (A := fun z => Q (some (.int z)) (SH L, mi, ml, MR)) (Or.inl rfl)
  · rw [h4, if_neg (by decide), if_pos (by decide)]
    exact fig_if (A := fun z => Q (some (.int z)) (SH L, mi, ml, MR)) (Or.inr rfl)
  · rw [h4, if_neg (by decide), if_neg (by decide)]
    exact fig_if (A := fun z => Q (some (.int z)) (SH L, mi, ml, MR)) (Or.inl rfl)
theorem c64_loop (hS : isStrip L r1 cap) (hr : r1 + 1 < 35) (hcap : cap < 1000) (hxl : xs.length ≤ cap) : ∀ n i ps mi u4 u5 u6, i + n = xs.length → psOK ps → lets mi → stR mi r1 (some xs) → stR mi 36 (some (ps.map nI)) → (∀ mi', stR mi' 36 (some ((scan xs n i ps).2.map nI)) → (∀ a j, a ≠ 36 → a ≠ 37 → mi' a j = mi a j) → Q (some (.int (fltV xs.length (scan xs n i ps)))) (SH L, mi', ml, MR)) → X 64 24 [.ref 35, .ref r1, .int (nI xs.length), .int (nI i), u4, u5, u6] [] (SH L, mi, ml, MR) (d + 3) Q := by
  intro n
  induction n with
  | zero =>
    intro i ps mi u4 u5 u6 hi hps hlt hst h36 k
    have e : szI (some (ps.map nI)) = nI ps.length := congrArg nI (List.length_map _)
    have hl := hps.1
    have hk := k mi h36 (fun _ _ _ _ => rfl)
    rw [s64_24g hS, if_neg (nI_nlt (by omega) (by omega)), c88 (sh36 L) h36, ret1, s64_109g hS, e]
    show (if _ then _ else _)
    have ef : fltV xs.length (scan xs 0 i ps) = if 0 < ps.length ∧ ps.length % 4 = 0 then -9 else nI xs.length := rfl
    rw [ef] at hk
    by_cases h0 : 0 < ps.length
    · rw [if_pos ((nI_pos_iff (by omega)).mpr h0), c88 (sh36 L) h36, ret1, s64_119g hS, e, rem4 (by omega)]
      by_cases h4 : ps.length % 4 = 0
      · rw [if_pos ⟨h0, h4⟩] at hk
        rw [h4, if_pos (by decide)]
        exact hk
      · rw [if_neg (fun z => h4 z.2)] at hk
        rw [if_neg (show ¬ nI (ps.length % 4) = 0 from nI_ne0 (by omega) (by omega))]
        exact hk
    · rw [if_neg (fun z => h0 z.1)] at hk
      rw [if_neg (fun z => h0 ((nI_pos_iff (by omega)).mp z))]
      exact hk
  | succ n ih =>
    intro i ps mi u4 u5 u6 hi hps hlt hst h36 k
    have e : szI (some (ps.map nI)) = nI ps.length := congrArg nI (List.length_map _)
    have hl := hps.1
    rw [s64_24g hS, if_pos (nI_lt (by omega) (by omega)), c90 hS hst hcap hxl (by omega), ret1, s64_34g hS, c88 (sh36 L) h36, ret1, s64_43g hS, e, rem4 (by omega)]
    have rest : ∀ u4 u5 u6, ¬ (ps.length % 4 = 0 ∧ xs.getD i 0 = 32) → Xm 65 [.ref 35, .int (xs.getD i 0)] (SH L, mi, ml, MR) (d + 2) (fun v μ' => X 64 76 [.ref 35, .ref r1, .int (nI xs.length), .int (nI i), u4, u5, u6] (v.toList ++ []) μ' (d + 3) Q) := by
      intro u4 u5 u6 hb
      rw [c65 hlt h36 hl, ret1, s64_76g hS]
      cases hv : valN ps.length (xs.getD i 0) with
      | none =>
        rw [scan_none hb hv] at k
        rw [if_pos (show optI (-9) none = -9 from rfl)]
        exact k mi h36 (fun _ _ _ _ => rfl)
      | some v =>
        have hps' := psOK_add hps hv
        have hl' := hps'.1
        rw [List.length_append, List.length_singleton] at hl'
        have hv10 := (hps'.2 ps.length (by rw [List.length_append, List.length_singleton]; omega)).1
        rw [getD_add, if_neg (by omega), if_pos rfl] at hv10
        rw [scan_some hb hv] at k
        rw [if_neg (show ¬ optI (-9) (some v) = -9 from fun z => nI_nneg (k := v) (by omega) (by rw [show nI v = -9 from z]; decide)), show optI (-9) (some v) = nI v from rfl, c93 (sh36 L) h36 (by omega) (by rw [List.length_map]; omega), ret0, s64_96g hS, nI_1]
        have hs1 := stR_add (v := nI v) h36
        have hm1 : ∀ a j, a ≠ 36 → a ≠ 37 → (xw (xw mi (36 + 1) (ps.map nI).length (nI v)) 36 1 (nI ((ps.map nI).length + 1))) a j = mi a j := fun a j h1 h2 => by rw [xw_ne h1, xw_ne h2]
        refine ih (i + 1) (ps ++ [v]) _ _ _ _ (by omega) hps' (fun k hk => by rw [hm1 _ _ (by omega) (by omega)]; exact hlt k hk) (stR_congr hst (hm1 _ _ (by omega) (by omega)) (fun j => hm1 _ _ (by omega) (by omega))) (by rw [List.map_append]; exact hs1) (fun mi' h1 h2 => k mi' h1 (fun a j a1 a2 => by rw [h2 a j a1 a2, hm1 a j a1 a2]))
    by_cases h4 : ps.length % 4 = 0
    · rw [h4, if_pos (by decide)]
      by_cases h32 : xs.getD i 0 = 32
      · rw [if_pos h32, nI_1]
        rw [scan_blank h4 h32] at k
        exact ih (i + 1) ps mi _ _ _ (by omega) hps hlt hst h36 k
      · rw [if_neg h32]
        exact rest _ _ _ (fun z => h32 z.2)
    · rw [if_neg (show ¬ nI (ps.length % 4) = 0 from nI_ne0 (by omega) (by omega))]
      exact rest _ _ _ (fun z => h4 z.1)
theorem c64 (hS : isStrip L r1 cap) (hr : r1 + 1 < 35) (hcap : cap < 1000) (hxl : xs.length ≤ cap) (hlt : lets mi) (hst : stR mi r1 (some xs)) (k : ∀ mi', stR mi' 36 (some ((scan xs xs.length 0 []).2.map nI)) → (∀ a j, a ≠ 36 → a ≠ 37 → mi' a j = mi a j) → Q (some (.int (fltV xs.length (scan xs xs.length 0 [])))) (SH L, mi', ml, MR)) : Xm 64 [.ref 35, .ref r1] (SH L, mi, ml, MR) (d + 3) Q := by
  have hm1 : ∀ a j, a ≠ 36 → a ≠ 37 → (xfill (xw mi 36 1 (nI 0)) (36 + 1) 0 0) a j = mi a j := fun a j h1 h2 => by rw [xfill_ne h2, xw_ne h1]
  rw [s64 hS]
  refine Eq.mpr (c92 (k := 0) (v := 0) (sh36 L) (by omega) (by omega)) ?_
  have hst' : stR (xfill (xw mi 36 1 (nI 0)) (36 + 1) 0 0) r1 (some xs) := stR_congr hst (hm1 _ _ (by omega) (by omega)) (fun j => hm1 _ _ (by omega) (by omega))
  rw [ret0, s64_9 hS, c88 hS hst', ret1, s64_21 hS]
  refine c64_loop hS hr hcap hxl xs.length 0 [] _ _ _ _ (by omega) ⟨by decide, fun j hj => absurd hj (Nat.not_lt_zero j)⟩ (fun k hk => by rw [hm1 _ _ (by omega) (by omega)]; exact hlt k hk) hst' (stR_begin (k := 0)) (fun mi' h1 h2 => k mi' h1 (fun a j a1 a2 => by rw [h2 a j a1 a2, hm1 a j a1 a2]))
end READ
