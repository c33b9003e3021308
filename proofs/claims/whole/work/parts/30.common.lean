/-! contracts that many calls use -/
theorem lg_lt (x y : Int64) : (lg_cmp x y < 0) ↔ x < y := by
  unfold lg_cmp
  by_cases h1 : x > y
  · rw [if_pos h1]
    have : ¬ x < y := by rw [Int64.lt_iff_toInt_lt] at *; have h1 := Int64.lt_iff_toInt_lt.mp h1; omega
    simp [this]
  · rw [if_neg h1]
    by_cases h2 : x = y
    · subst h2
      simp
    · rw [if_neg h2]
      have : x < y := by
        rw [Int64.lt_iff_toInt_lt]
        have h1 := mt Int64.lt_iff_toInt_lt.mpr h1
        have h2 := mt Int64.toInt_inj.mp h2
        omega
      simp [this]
theorem lg_gt (x y : Int64) : (0 < lg_cmp x y) ↔ y < x := by
  unfold lg_cmp
  by_cases h1 : x > y
  · rw [if_pos h1]; simp [h1]
  · rw [if_neg h1]
    have h1' : ¬ y < x := h1
    by_cases h2 : x = y
    · rw [if_pos h2]; simp [h1']
    · rw [if_neg h2]; simp [h1']
theorem wide_lt (a b : Int32) : a.toInt64 < b.toInt64 ↔ a < b := by rw [Int64.lt_iff_toInt_lt, Int32.lt_iff_toInt_lt, Int32.toInt_toInt64, Int32.toInt_toInt64]
section COMMON
variable {L : Nat} {mi : Nat → Nat → Int32} {ml : Nat → Nat → Int64} {d : Nat} {Q : Option Value → xM → Prop}
/-- the model's in() -/
theorem c149 {x lo hi : Int32} : Xm 149 [.long x.toInt64, .long lo.toInt64, .long hi.toInt64] (SH L, mi, ml, MR) d Q = Q (some (.int (bI (¬ x < lo ∧ ¬ hi < x)))) (SH L, mi, ml, MR) := by
  rw [s149]
  by_cases h1 : x < lo
  · rw [if_pos ((lg_lt _ _).mpr ((wide_lt _ _).mpr h1))]
    simp [bI, h1]
  · rw [if_neg (fun h => h1 ((wide_lt _ _).mp ((lg_lt _ _).mp h)))]
    by_cases h2 : hi < x
    · rw [if_pos ((lg_gt _ _).mpr ((wide_lt _ _).mpr h2))]
      simp [bI, h2]
    · rw [if_neg (fun h => h2 ((wide_lt _ _).mp ((lg_gt _ _).mp h)))]
      simp [bI, h1, h2]
theorem c155 {x : Int32} : Xm 155 [.int x] (SH L, mi, ml, MR) (d + 1) Q = Q (some (.int (bI (¬ x < 0 ∧ ¬ nI 5 < x)))) (SH L, mi, ml, MR) := by
  rw [s155, show (0 : Int64) = (0 : Int32).toInt64 from rfl, show (5 : Int64) = (nI 5).toInt64 from rfl, c149, ret1, s155_9 bI_or]
theorem c156 {x : Int32} : Xm 156 [.int x] (SH L, mi, ml, MR) (d + 1) Q = Q (some (.int (bI (¬ x < 0 ∧ ¬ nI 3 < x)))) (SH L, mi, ml, MR) := by
  rw [s156, show (0 : Int64) = (0 : Int32).toInt64 from rfl, show (3 : Int64) = (nI 3).toInt64 from rfl, c149, ret1, s156_9 bI_or]
theorem c172 {x : Int32} : Xm 172 [.ref 68, .int x] (SH L, mi, ml, MR) (d + 1) Q = Q (some (.int (bI (¬ x < 0 ∧ ¬ (mi 68 4 - 1) < x)))) (SH L, mi, ml, MR) := by
  rw [s172, show (0 : Int64) = (0 : Int32).toInt64 from rfl, c149, ret1, s172_13 bI_or]
theorem c173 {x : Int32} : Xm 173 [.int x] (SH L, mi, ml, MR) (d + 1) Q = Q (some (.int (bI (¬ x < 0 ∧ ¬ nI 8 < x)))) (SH L, mi, ml, MR) := by
  rw [s173, show (0 : Int64) = (0 : Int32).toInt64 from rfl, show (8 : Int64) = (nI 8).toInt64 from rfl, c149, ret1, s173_9 bI_or]
/-- found, on both sides -/
def sFound (f : Nat) (S : pS) : pS := (S.1, nI f, up S.2.2.1 f (S.2.2.1 f + 1), S.2.2.2)
def sTold (v : Int32) (S : pS) : pS := (v, S.2)
def sChance (t b : Int64) (S : pS) : pS := (S.1, S.2.1, S.2.2.1, t, b)
theorem c141 {k : Nat} (hk : k < 6) : Xm 141 [.ref 2, .int (nI k)] (SH L, mi, ml, MR) d Q = Q (some (.int (-3))) (SH L, xw (xw mi 2 10 (nI k)) 67 k (mi 67 k + 1), ml, MR) := by
  rw [s141 (fun _ _ => xin_nI hk (by omega)) (fun _ _ => xin_nI hk (by omega)), if_neg (nI_nneg (by omega)), if_pos (show nI k < 6 from nI_lt (b := 6) hk (by omega)), nI_clamp (by omega), xw_ne (by omega)]
theorem c152 {k : Nat} (hk : k < 6) : Xm 152 [.ref 68, .int (nI k)] (SH L, mi, ml, MR) d Q = Q (some (.int (-3))) (SH L, xw (xw mi 68 17 (nI k)) 81 k (mi 81 k + 1), ml, MR) := by
  rw [s152 (xin_nI hk (by omega)) (xin_nI hk (by omega)), nI_clamp (by omega), xw_ne (by omega)]
theorem c141_1 : Xm 141 [.ref 2, .int 1] (SH L, mi, ml, MR) d Q = Q (some (.int (-3))) (SH L, xw (xw mi 2 10 (nI 1)) 67 1 (mi 67 1 + 1), ml, MR) := c141 (k := 1) (by omega)
theorem c152_1 : Xm 152 [.ref 68, .int 1] (SH L, mi, ml, MR) d Q = Q (some (.int (-3))) (SH L, xw (xw mi 68 17 (nI 1)) 81 1 (mi 81 1 + 1), ml, MR) := c152 (k := 1) (by omega)
theorem c141_2 : Xm 141 [.ref 2, .int 2] (SH L, mi, ml, MR) d Q = Q (some (.int (-3))) (SH L, xw (xw mi 2 10 (nI 2)) 67 2 (mi 67 2 + 1), ml, MR) := c141 (k := 2) (by omega)
theorem c152_2 : Xm 152 [.ref 68, .int 2] (SH L, mi, ml, MR) d Q = Q (some (.int (-3))) (SH L, xw (xw mi 68 17 (nI 2)) 81 2 (mi 81 2 + 1), ml, MR) := c152 (k := 2) (by omega)
theorem c141_3 : Xm 141 [.ref 2, .int 3] (SH L, mi, ml, MR) d Q = Q (some (.int (-3))) (SH L, xw (xw mi 2 10 (nI 3)) 67 3 (mi 67 3 + 1), ml, MR) := c141 (k := 3) (by omega)
theorem c152_3 : Xm 152 [.ref 68, .int 3] (SH L, mi, ml, MR) d Q = Q (some (.int (-3))) (SH L, xw (xw mi 68 17 (nI 3)) 81 3 (mi 81 3 + 1), ml, MR) := c152 (k := 3) (by omega)
theorem c141_4 : Xm 141 [.ref 2, .int 4] (SH L, mi, ml, MR) d Q = Q (some (.int (-3))) (SH L, xw (xw mi 2 10 (nI 4)) 67 4 (mi 67 4 + 1), ml, MR) := c141 (k := 4) (by omega)
theorem c152_4 : Xm 152 [.ref 68, .int 4] (SH L, mi, ml, MR) d Q = Q (some (.int (-3))) (SH L, xw (xw mi 68 17 (nI 4)) 81 4 (mi 81 4 + 1), ml, MR) := c152 (k := 4) (by omega)
theorem c141_5 : Xm 141 [.ref 2, .int 5] (SH L, mi, ml, MR) d Q = Q (some (.int (-3))) (SH L, xw (xw mi 2 10 (nI 5)) 67 5 (mi 67 5 + 1), ml, MR) := c141 (k := 5) (by omega)
theorem c152_5 : Xm 152 [.ref 68, .int 5] (SH L, mi, ml, MR) d Q = Q (some (.int (-3))) (SH L, xw (xw mi 68 17 (nI 5)) 81 5 (mi 81 5 + 1), ml, MR) := c152 (k := 5) (by omega)
theorem cS_found {S : pS} {k : Nat} (h : cS S mi ml) : cS (sFound k S) (xw (xw mi 2 10 (nI k)) 67 k (mi 67 k + 1)) ml := by
  obtain ⟨a1, a2, a3, a4, a5⟩ := h
  refine ⟨by rw [xw_ne (by omega), xw_eq, if_neg (by omega)]; exact a1, by rw [xw_ne (by omega), xw_eq, if_pos rfl]; rfl, fun f hf => ?_, a4, a5⟩
  rw [xw_eq]
  simp only [sFound, up]
  by_cases h : f = k
  · subst h; rw [if_pos rfl, if_pos rfl, a3 f hf]
  · rw [if_neg h, if_neg h, xw_ne (by omega), a3 f hf]
theorem mS_found {S : pS} {k : Nat} (h : mS S mi ml) : mS (sFound k S) (xw (xw mi 68 17 (nI k)) 81 k (mi 81 k + 1)) ml := by
  obtain ⟨a1, a2, a3, a4, a5⟩ := h
  refine ⟨by rw [xw_ne (by omega), xw_eq, if_neg (by omega)]; exact a1, by rw [xw_ne (by omega), xw_eq, if_pos rfl]; rfl, fun f hf => ?_, a4, a5⟩
  rw [xw_eq]
  simp only [sFound, up]
  by_cases h : f = k
  · subst h; rw [if_pos rfl, if_pos rfl, a3 f hf]
  · rw [if_neg h, if_neg h, xw_ne (by omega), a3 f hf]
theorem Cst_found {R T : pR} {P : pP} {D : List Nat} {K : Nat → Option (List Nat)} {S : pS} {k : Nat} (hP : P.length ≤ 6) (h : Cst R T P D K S mi ml) : Cst R T P D K (sFound k S) (xw (xw mi 2 10 (nI k)) 67 k (mi 67 k + 1)) ml ∧ sameM mi (xw (xw mi 2 10 (nI k)) 67 k (mi 67 k + 1)) ml ml := by
  have e : ∀ a j, a ≠ 2 → a ≠ 67 → xw (xw mi 2 10 (nI k)) 67 k (mi 67 k + 1) a j = mi a j := fun a j h1 h2 => by rw [xw_ne h2, xw_ne h1]
  exact ⟨⟨cR_congr h.1 (fun a j _ _ => e a j (by omega) (by omega)), cT_congr h.2.1 (fun a j _ _ => e a j (by omega) (by omega)), cG_congr hP h.2.2.1 (fun a j _ _ => e a j (by omega) (by omega)), cK_congr h.2.2.2.1 (fun a j _ _ => e a j (by omega) (by omega)), cS_found h.2.2.2.2⟩, fun a j _ => e a j (by omega) (by omega), fun _ _ _ => rfl⟩
theorem Mst_found {R T : pR} {P : pP} {D : List Nat} {K : Nat → Option (List Nat)} {S : pS} {k : Nat} (h : Mst R T P D K S mi ml) : Mst R T P D K (sFound k S) (xw (xw mi 68 17 (nI k)) 81 k (mi 81 k + 1)) ml ∧ sameC mi (xw (xw mi 68 17 (nI k)) 81 k (mi 81 k + 1)) ml ml := by
  have e : ∀ a j, a ≠ 68 → a ≠ 81 → xw (xw mi 68 17 (nI k)) 81 k (mi 81 k + 1) a j = mi a j := fun a j h1 h2 => by rw [xw_ne h2, xw_ne h1]
  have e68 : ∀ j, j ≠ 17 → xw (xw mi 68 17 (nI k)) 81 k (mi 81 k + 1) 68 j = mi 68 j := fun j h1 => by rw [xw_ne (by omega), xw_eq, if_neg h1]
  exact ⟨⟨mR_congr h.1 (fun j => e _ j (by omega) (by omega)) (fun j => e _ j (by omega) (by omega)), mT_congr h.2.1 (fun j => e _ j (by omega) (by omega)) (fun j => e _ j (by omega) (by omega)), mG_congr h.2.2.1 (e68 4 (by omega)) (e68 10 (by omega)) (fun a j _ _ => e a j (by omega) (by omega)), mK_congr h.2.2.2.1 (fun j => e _ j (by omega) (by omega)) (fun j => e _ j (by omega) (by omega)), mS_found h.2.2.2.2⟩, fun a j ha => e a j (by omega) (by omega), fun _ _ _ => rfl⟩
/-- what is told -/
theorem Cst_told {R T : pR} {P : pP} {D : List Nat} {K : Nat → Option (List Nat)} {S : pS} {v : Int32} (hP : P.length ≤ 6) (h : Cst R T P D K S mi ml) : Cst R T P D K (sTold v S) (xw mi 2 11 v) ml ∧ sameM mi (xw mi 2 11 v) ml ml := by
  have e : ∀ a j, a ≠ 2 → xw mi 2 11 v a j = mi a j := fun a j h1 => by rw [xw_ne h1]
  refine ⟨⟨cR_congr h.1 (fun a j _ _ => e a j (by omega)), cT_congr h.2.1 (fun a j _ _ => e a j (by omega)), cG_congr hP h.2.2.1 (fun a j _ _ => e a j (by omega)), cK_congr h.2.2.2.1 (fun a j _ _ => e a j (by omega)), ?_⟩, fun a j _ => e a j (by omega), fun _ _ _ => rfl⟩
  obtain ⟨a1, a2, a3, a4, a5⟩ := h.2.2.2.2
  exact ⟨by rw [xw_eq, if_pos rfl]; rfl, by rw [xw_eq, if_neg (by omega)]; exact a2, fun f hf => by rw [e _ _ (by omega)]; exact a3 f hf, a4, a5⟩
theorem Mst_told {R T : pR} {P : pP} {D : List Nat} {K : Nat → Option (List Nat)} {S : pS} {v : Int32} (h : Mst R T P D K S mi ml) : Mst R T P D K (sTold v S) (xw mi 68 14 v) ml ∧ sameC mi (xw mi 68 14 v) ml ml := by
  have e : ∀ a j, a ≠ 68 → xw mi 68 14 v a j = mi a j := fun a j h1 => by rw [xw_ne h1]
  have e68 : ∀ j, j ≠ 14 → xw mi 68 14 v 68 j = mi 68 j := fun j h1 => by rw [xw_eq, if_neg h1]
  refine ⟨⟨mR_congr h.1 (fun j => e _ j (by omega)) (fun j => e _ j (by omega)), mT_congr h.2.1 (fun j => e _ j (by omega)) (fun j => e _ j (by omega)), mG_congr h.2.2.1 (e68 4 (by omega)) (e68 10 (by omega)) (fun a j _ _ => e a j (by omega)), mK_congr h.2.2.2.1 (fun j => e _ j (by omega)) (fun j => e _ j (by omega)), ?_⟩, fun a j ha => e a j (by omega), fun _ _ _ => rfl⟩
  obtain ⟨a1, a2, a3, a4, a5⟩ := h.2.2.2.2
  exact ⟨by rw [xw_eq, if_pos rfl]; rfl, by rw [e68 _ (by omega)]; exact a2, fun f hf => by rw [e _ _ (by omega)]; exact a3 f hf, a4, a5⟩
end COMMON
theorem sameM_tr {mi m1 m2 : Nat → Nat → Int32} {ml l1 l2 : Nat → Nat → Int64} (h1 : sameM mi m1 ml l1) (h2 : sameM m1 m2 l1 l2) : sameM mi m2 ml l2 := ⟨fun a j h => (h2.1 a j h).trans (h1.1 a j h), fun a j h => (h2.2 a j h).trans (h1.2 a j h)⟩
theorem sameC_tr {mi m1 m2 : Nat → Nat → Int32} {ml l1 l2 : Nat → Nat → Int64} (h1 : sameC mi m1 ml l1) (h2 : sameC m1 m2 l1 l2) : sameC mi m2 ml l2 := ⟨fun a j h => (h2.1 a j h).trans (h1.1 a j h), fun a j h => (h2.2 a j h).trans (h1.2 a j h)⟩
theorem sameM_rf {mi : Nat → Nat → Int32} {ml : Nat → Nat → Int64} : sameM mi mi ml ml := ⟨fun _ _ _ => rfl, fun _ _ _ => rfl⟩
theorem sameC_rf {mi : Nat → Nat → Int32} {ml : Nat → Nat → Int64} : sameC mi mi ml ml := ⟨fun _ _ _ => rfl, fun _ _ _ => rfl⟩
/-! shelves -/
def okShelf (L a n cap : Nat) : Prop := isShelf L a n ∧ ∀ k, k < n → MR (a + 1) k = some (a + 2 + 2 * k) ∧ isStrip L (a + 2 + 2 * k) cap
theorem shRows (L : Nat) : okShelf L 3 6 40 := by
  refine ⟨⟨rfl, SH_ref (by decide +kernel), rfl⟩, fun k hk => ?_⟩
  rcases (show k = 0 ∨ k = 1 ∨ k = 2 ∨ k = 3 ∨ k = 4 ∨ k = 5 by omega) with rfl | rfl | rfl | rfl | rfl | rfl <;> exact ⟨SH_ref (by decide +kernel), rfl, SH_ref (by decide +kernel), rfl⟩
theorem shTexts (L : Nat) : okShelf L 17 4 60 := by
  refine ⟨⟨rfl, SH_ref (by decide +kernel), rfl⟩, fun k hk => ?_⟩
  rcases (show k = 0 ∨ k = 1 ∨ k = 2 ∨ k = 3 by omega) with rfl | rfl | rfl | rfl <;> exact ⟨SH_ref (by decide +kernel), rfl, SH_ref (by decide +kernel), rfl⟩
theorem shKept (L : Nat) : okShelf L 27 3 40 := by
  refine ⟨⟨rfl, SH_ref (by decide +kernel), rfl⟩, fun k hk => ?_⟩
  rcases (show k = 0 ∨ k = 1 ∨ k = 2 by omega) with rfl | rfl | rfl <;> exact ⟨SH_ref (by decide +kernel), rfl, SH_ref (by decide +kernel), rfl⟩
section SHELF
variable {L : Nat} {mi : Nat → Nat → Int32} {ml : Nat → Nat → Int64} {d : Nat} {Q : Option Value → xM → Prop} {a n cap : Nat}
theorem c82 {k : Nat} (h : okShelf L a n cap) (hn : n < 1000) (hk : k < n) : Xm 82 [.ref a, .int (nI k)] (SH L, mi, ml, MR) d Q = Q (some (.ref (a + 2 + 2 * k))) (SH L, mi, ml, MR) := by
  rw [s82 (rb18 := a + 2 + 2 * k) h.1 (h.2 k hk).2 (fun _ _ => xin_nI hk (by omega)) (fun _ _ => by rw [nI_clamp (by omega)]; exact (h.2 k hk).1), if_neg (nI_nneg (by omega)), ofNat_nI, if_pos (nI_lt hk (by omega))]
theorem c82n {x : Int32} (h : okShelf L a n cap) (hn : 0 < n) (hn2 : n < 1000) (hx : x < 0 ∨ ¬ x < nI n) : Xm 82 [.ref a, .int x] (SH L, mi, ml, MR) d Q = Q (some .null) (SH L, mi, ml, MR) := by
  rw [s82 (rb18 := a + 2 + 2 * 0) h.1 (h.2 0 hn).2 (fun h1 h2 => xin_of h1 h2 (by omega)) (fun h1 h2 => absurd hx (fun z => z.elim h1 (fun z => z h2)))]
  by_cases h0 : x < 0
  · rw [if_pos h0]
  · rw [if_neg h0, ofNat_nI, if_neg (hx.resolve_left h0)]
end SHELF
