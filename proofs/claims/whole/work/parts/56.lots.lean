/-! lots -/
section LOTS
variable {R T : pR} {P : pP} {D : List Nat} {K : Nat → Option (List Nat)} {S : pS} {L : Nat} {mi : Nat → Nat → Int32} {ml : Nat → Nat → Int64} {d : Nat} {Q : Option Value → xM → Prop} {i v N k : Nat} {x2 s : Int32}
theorem lotC_2 (hi : v / 8 % P.length = i) (ha : mayP (pl P i) (gW (rep P D) i) (gP (rep P D) i) (gE (rep P D) i) (gD (rep P D))) : lotC P D v = 10 * 2 + i := by
  subst hi
  unfold lotC
  rw [if_pos ha]
theorem lotC_1 (hi : v / 8 % P.length = i) (ha : ¬ mayP (pl P i) (gW (rep P D) i) (gP (rep P D) i) (gE (rep P D) i) (gD (rep P D))) (hw : (gE (rep P D) i = false ∧ gW (rep P D) i < 9) ∧ v % 3 = 0) : lotC P D v = 10 * 1 + i := by
  subst hi
  unfold lotC
  rw [if_neg ha, if_pos hw]
theorem lotC_0 (hi : v / 8 % P.length = i) (ha : ¬ mayP (pl P i) (gW (rep P D) i) (gP (rep P D) i) (gE (rep P D) i) (gD (rep P D))) (hw : ¬ ((gE (rep P D) i = false ∧ gW (rep P D) i < 9) ∧ v % 3 = 0)) : lotC P D v = 10 * 0 + 0 := by
  subst hi
  unfold lotC
  rw [if_neg ha, if_neg hw]
theorem c28_head {V W : Value} (hok : okP P) (hD : okD P D) (h : cG P D mi) (h0 : 0 < P.length) (hv : v < 2147483647) (hkN : k < N) (hN : N < 100) (hV : v2 V W) (hi : lotN v / 8 % P.length = i) : X 28 9 [.ref 38, .int (nI N), .int x2, .long (nL v), xmk, .int s, .int (nI k), W, V] [] (SH L, mi, ml, MR) (d + 4) Q = X 28 68 [.ref 38, .int (nI N), .int x2, .long (nL (lotN v)), xmk, .int s, .int (nI k), .int (nI i), .ref (42 + i)] [.int (nI (opp (pl P i) (gW (rep P D) i) (gE (rep P D) i) (gD (rep P D)) (gP (rep P D) i)))] (SH L, mi, ml, MR) (d + 4) Q := by
  have hP := hok.1
  have hD1 := hD.1
  have hb := rep_le P D
  have hbi := hb.2 i
  have hlt := lotN_lt v
  have hiP : i < P.length := by rw [← hi]; exact Nat.mod_lt _ h0
  have hS := (shPlant L (i := i) (by omega)).1
  have hne : (nI k < nI N) → ((0 : Int32) < (mi 38 2)) → ¬ (mi 38 2).toInt64 = 0 := fun _ _ => by
    rw [h.1, nI_L (by omega)]
    exact nL_ne0 h0 (by omega)
  rcases hV with ⟨rfl, rfl⟩ | ⟨j, z, hj, rfl, rfl⟩
  · rw [s28_9 hne, if_pos (nI_lt hkN (by omega)), h.1, if_pos ((nI_pos_iff (by omega)).mpr h0), lot_L hv, lot_i hlt h0 (by omega), hi, c15_in hP h.1 hiP, ret1, s28_52 hS, h.2.1, c57 hS (cG_pl h hiP) (hok.2 i hiP) (by omega) (by omega) (by omega), ret1]
    rfl
  · rw [s28_9v3 (shPlant L hj).1 hne, if_pos (nI_lt hkN (by omega)), h.1, if_pos ((nI_pos_iff (by omega)).mpr h0), lot_L hv, lot_i hlt h0 (by omega), hi, c15_in hP h.1 hiP, ret1, s28_52v3 (shPlant L hj).1 hS, h.2.1, c57 hS (cG_pl h hiP) (hok.2 i hiP) (by omega) (by omega) (by omega), ret1]
    rfl
theorem c28_end {V W : Value} (hV : v2 V W) {x3 : Int64} {x6 : Int32} (h6 : ¬ x6 < nI N) : X 28 9 [.ref 38, .int (nI N), .int x2, .long x3, xmk, .int s, .int x6, W, V] [] (SH L, mi, ml, MR) (d + 1) Q = Q (some (.int s)) (SH L, mi, ml, MR) := by
  rcases hV with ⟨rfl, rfl⟩ | ⟨j, z, hj, rfl, rfl⟩
  · rw [s28_9 (fun z => absurd z h6), if_neg h6]
  · rw [s28_9v3 (shPlant L hj).1 (fun z => absurd z h6), if_neg h6]
theorem c28_loop (h0 : 0 < P.length) (hN : N < 100) : ∀ n k v D s mi V W, k + n = N → ok P D K → D.length + n ≤ 40 → v < 2147483647 → v2 V W → Cst R T P D K S mi ml → (∀ mi', Cst R T P (lotsN P n v D s).1 K S mi' ml → sameM mi mi' ml ml → Q (some (.int (nI (lotsN P n v D s).2))) (SH L, mi', ml, MR)) → X 28 9 [.ref 38, .int (nI N), .int x2, .long (nL v), xmk, .int (nI s), .int (nI k), W, V] [] (SH L, mi, ml, MR) (d + 4) Q := by
  intro n
  induction n with
  | zero =>
    intro k v D s mi V W hk hok hl hv hV h q
    rw [c28_end hV (nI_nlt (by omega) (by omega))]
    exact q mi h sameM_rf
  | succ n ih =>
    intro k v D s mi V W hk hok hl hv hV h q
    have hP := hok.1.1
    have hlt := lotN_lt v
    have hb := rep_le P D
    have hiP : lotN v / 8 % P.length < P.length := Nat.mod_lt _ h0
    generalize hi : lotN v / 8 % P.length = i at hiP
    have hS := (shPlant L (i := i) (by omega)).1
    have hbi := hb.2 i
    have hle := opp_le (p := pl P i) (w := gW (rep P D) i) (e := gE (rep P D) i) (day := gD (rep P D)) (q := gP (rep P D) i)
    have hnew : ok P (D ++ [lotC P D (lotN v)]) K := ⟨hok.1, okD_add hok.2.1 (by omega) (lotC_ok h0 hP), hok.2.2⟩
    have hlen : (D ++ [lotC P D (lotN v)]).length + n ≤ 40 := by rw [List.length_append, List.length_singleton]; omega
    rw [c28_head hok.1 hok.2.1 h.2.2.1 h0 hv (by omega) hN hV hi, s28_68 hS]
    have hV' : ∀ z, v2 (.ref (42 + i)) (.int z) := fun z => Or.inr ⟨i, z, (by omega : i < 6), rfl, rfl⟩
    by_cases ha : mayP (pl P i) (gW (rep P D) i) (gP (rep P D) i) (gE (rep P D) i) (gD (rep P D))
    · have hC := lotC_2 hi ha
      have e : lotsN P (n + 1) v D s = lotsN P n (lotN v) (D ++ [10 * 2 + i]) (s + gL (rep P (D ++ [10 * 2 + i]))) := by
        show lotsN P n _ _ _ = _
        rw [hC, if_pos (by omega)]
      rw [e] at q
      rw [hC] at hnew hlen
      rw [if_pos ((nI_pos_iff (by omega)).mpr (opp_pos.mpr ha))]
      refine c23 (what := 2) hok h (by omega) hiP (by omega) (fun mi' h' s' => ?_)
      rw [ret0, s28_78 hS, h'.2.2.1.2.2.1, nI_1, nI_add]
      exact ih (k + 1) (lotN v) _ _ mi' _ _ (by omega) hnew hlen hlt (hV' _) h' (fun mi2 h2 s2 => q mi2 h2 (sameM_tr s' s2))
    · rw [if_neg (fun z => ha (opp_pos.mp ((nI_pos_iff (by omega)).mp z))), c56 hS (cG_pl h.2.2.1 hiP) (by omega), ret1, s28_100 hS]
      by_cases hw : (gE (rep P D) i = false ∧ gW (rep P D) i < 9) ∧ lotN v % 3 = 0
      · have hC := lotC_1 hi ha hw
        have e : lotsN P (n + 1) v D s = lotsN P n (lotN v) (D ++ [10 * 1 + i]) s := by
          show lotsN P n _ _ _ = _
          rw [hC, if_neg (by omega)]
        rw [e] at q
        rw [hC] at hnew hlen
        rw [bI_t hw.1, if_neg i1_ne0, if_pos ((lot_3 hlt).mpr hw.2)]
        refine c23 (what := 1) hok h (by omega) hiP (by omega) (fun mi' h' s' => ?_)
        rw [ret0, s28_120 hS, nI_1]
        exact ih (k + 1) (lotN v) _ _ mi' _ _ (by omega) hnew hlen hlt (hV' _) h' (fun mi2 h2 s2 => q mi2 h2 (sameM_tr s' s2))
      · have hC := lotC_0 hi ha hw
        have e : lotsN P (n + 1) v D s = lotsN P n (lotN v) (D ++ [10 * 0 + 0]) s := by
          show lotsN P n _ _ _ = _
          rw [hC, if_neg (by omega)]
        rw [e] at q
        rw [hC] at hnew hlen
        have day : Xm 23 [.ref 38, .int (nI 0), .int (nI 0)] (SH L, mi, ml, MR) (d + 3) (fun w μ' => X 28 129 [.ref 38, .int (nI N), .int x2, .long (nL (lotN v)), xmk, .int (nI s), .int (nI k), .int (nI i), .ref (42 + i)] (w.toList ++ []) μ' (d + 4) Q) := by
          refine c23 (what := 0) (i := 0) hok h (by omega) (by omega) (by omega) (fun mi' h' s' => ?_)
          rw [ret0, s28_129v2 hS, nI_1]
          exact ih (k + 1) (lotN v) _ _ mi' _ _ (by omega) hnew hlen hlt (hV' _) h' (fun mi2 h2 s2 => q mi2 h2 (sameM_tr s' s2))
        by_cases hw1 : gE (rep P D) i = false ∧ gW (rep P D) i < 9
        · rw [bI_t hw1, if_neg i1_ne0, if_neg (fun z => hw ⟨hw1, (lot_3 hlt).mp z⟩)]
          exact day
        · rw [bI_f hw1, if_pos rfl]
          exact day
/-! the model's -/
theorem Mst_day (h : Mst R T P D K S mi ml) : Mst R T P (D ++ [10 * 0 + 0]) K S (xw (xw (xcpy mi 77 0 78 (15 * D.length) 15) 68 10 (nI (D.length + 1))) 77 13 (nI (gD (rep P D) + 1))) ml ∧ sameC mi (xw (xw (xcpy mi 77 0 78 (15 * D.length) 15) 68 10 (nI (D.length + 1))) 77 13 (nI (gD (rep P D) + 1))) ml ml :=
  Mst_deed (c := 10 * 0 + 0) h (fun j hj => by
    rw [enc_0 (by omega), xw_eq, deed_77]
    by_cases e : j = 13
    · rw [if_pos e, if_pos e]
    · rw [if_neg e, if_neg e]
      exact h.2.2.1.2.2.2.1 j hj) (fun a j ha => xw_ne ha j)
theorem Mst_water (hi : i < 6) (h : Mst R T P D K S mi ml) : Mst R T P (D ++ [10 * 1 + i]) K S (xw (xw (xcpy mi 77 0 78 (15 * D.length) 15) 68 10 (nI (D.length + 1))) 77 i (nI (gW (rep P D) i + 1))) ml ∧ sameC mi (xw (xw (xcpy mi 77 0 78 (15 * D.length) 15) 68 10 (nI (D.length + 1))) 77 i (nI (gW (rep P D) i + 1))) ml ml :=
  Mst_deed (c := 10 * 1 + i) h (fun j hj => by
    rw [enc_1 hi, xw_eq, deed_77]
    by_cases e : j = i
    · rw [if_pos e, if_pos e]
    · rw [if_neg e, if_neg e]
      exact h.2.2.1.2.2.2.1 j hj) (fun a j ha => xw_ne ha j)
theorem c193 (hok : ok P D K) (hi : i < P.length) (h : Mst R T P D K S mi ml) (hl : D.length < 40) (q : ∀ mi', Mst R T P (D ++ [10 * 2 + i]) K S mi' ml → sameC mi mi' ml ml → Q none (SH L, mi', ml, MR)) : Xm 193 [.ref 68, .int (nI i)] (SH L, mi, ml, MR) (d + 3) Q := by
  have hP := hok.1.1
  have hpi := hok.1.2 i hi
  have hb := rep_le P D
  have hbi := hb.2 i
  have e0 : (6 + nI i).toNatClampNeg = 6 + i := by rw [show (6 : Int32) = nI 6 from rfl, nI_add, nI_clamp (by omega)]
  have hw := mg_p (mG_g h.2.2.1) (i := i) (by omega)
  rw [e0] at hw
  have hpl : mpR (xw (xcpy mi 77 0 78 (15 * D.length) 15) 68 10 (nI (D.length + 1))) i (pl P i) := by
    have hx : ∀ a j, a ≠ 78 → a ≠ 68 → xw (xcpy mi 77 0 78 (15 * D.length) 15) 68 10 (nI (D.length + 1)) a j = mi a j := fun a j h1 h2 => by
      rw [xw_ne h2]
      simp only [xcpy]
      rw [if_neg (fun z => h1 z.1)]
    unfold mpR
    rw [hx _ _ (by omega) (by omega), hx _ _ (by omega) (by omega), hx _ _ (by omega) (by omega), hx _ _ (by omega) (by omega)]
    exact mG_pl h.2.2.1 hi
  rw [s193, c189 h.2.2.1.2.1 hl, ret0, s193_4 (xin_p (by omega)), e0, deed_77, hw, c180 (by omega) hpl hpi (by omega), ret1, s193_24 (by decide) (xin_p (by omega)) (xin_p (by omega)), show (14 : Int32).toNatClampNeg = 14 from rfl, e0]
  have e7 : xw (xw (xcpy mi 77 0 78 (15 * D.length) 15) 68 10 (nI (D.length + 1))) 77 14 (nI (wordP (pl P i) (gP (rep P D) i))) 77 (6 + i) + 1 = nI (gP (rep P D) i + 1) := by rw [xw_eq, if_neg (by omega), deed_77, hw, nI_1]
  rw [e7]
  have hM := Mst_deed (c := 10 * 2 + i) (m' := xw (xw (xw (xcpy mi 77 0 78 (15 * D.length) 15) 68 10 (nI (D.length + 1))) 77 14 (nI (wordP (pl P i) (gP (rep P D) i)))) 77 (6 + i) (nI (gP (rep P D) i + 1))) h (fun j hj => by
    rw [enc_2 (by omega), xw_eq, xw_eq, deed_77]
    by_cases e : j = 6 + i
    · rw [if_pos e, if_pos e]
    · rw [if_neg e, if_neg e]
      by_cases e2 : j = 14
      · rw [if_pos e2, if_neg (by omega)]
      · rw [if_neg e2, if_pos (by omega)]
        exact h.2.2.1.2.2.2.1 j hj) (fun a j ha => by rw [xw_ne ha, xw_ne ha])
  exact q _ hM.1 hM.2
def v3 (w u : Value) : Prop := (w = xmk ∧ u = xmk) ∨ (∃ z, w = .int z ∧ u = xmk) ∨ ∃ z y, w = .int z ∧ u = .int y
theorem c228_head {W U : Value} (hok : okP P) (hD : okD P D) (h : Mst R T P D K S mi ml) (h0 : 0 < P.length) (hv : v < 2147483647) (hkN : k < N) (hN : N < 100) (hV : v3 W U) (hi : lotN v / 8 % P.length = i) : X 228 59 [.ref 68, .int (nI N), .int x2, .long (nL v), xmk, .int s, .int (nI k), W, U] [] (SH L, mi, ml, MR) (d + 5) Q = X 228 95 [.ref 68, .int (nI N), .int x2, .long (nL (lotN v)), xmk, .int s, .int (nI k), .int (nI i), U] [.int (bI (mayP (pl P i) (gW (rep P D) i) (gP (rep P D) i) (gE (rep P D) i) (gD (rep P D))))] (SH L, mi, ml, MR) (d + 5) Q := by
  have hP := hok.1
  have hD1 := hD.1
  have hb := rep_le P D
  have hbi := hb.2 i
  have hlt := lotN_lt v
  have hiP : i < P.length := by rw [← hi]; exact Nat.mod_lt _ h0
  have hne : (nI k < nI N) → ¬ (mi 68 4).toInt64 = 0 := fun _ => by
    rw [h.2.2.1.1, nI_L (by omega)]
    exact nL_ne0 h0 (by omega)
  have hg := mG_g h.2.2.1
  rcases hV with ⟨rfl, rfl⟩ | ⟨z, rfl, rfl⟩ | ⟨z, y, rfl, rfl⟩
  · rw [s228_59 hne, if_pos (nI_lt hkN (by omega)), h.2.2.1.1, lot_L hv, lot_i hlt h0 (by omega), hi, c183 (by omega) hg (mG_pl h.2.2.1 hiP) (hok.2 i hiP) (by omega) (by omega) (by omega), ret1]
  · rw [s228_59v2 hne, if_pos (nI_lt hkN (by omega)), h.2.2.1.1, lot_L hv, lot_i hlt h0 (by omega), hi, c183 (by omega) hg (mG_pl h.2.2.1 hiP) (hok.2 i hiP) (by omega) (by omega) (by omega), ret1]
  · rw [s228_59v3 hne, if_pos (nI_lt hkN (by omega)), h.2.2.1.1, lot_L hv, lot_i hlt h0 (by omega), hi, c183 (by omega) hg (mG_pl h.2.2.1 hiP) (hok.2 i hiP) (by omega) (by omega) (by omega), ret1]
theorem c228_end {W U : Value} {x3 : Int64} {x6 : Int32} (hV : v3 W U) (h6 : ¬ x6 < nI N) : X 228 59 [.ref 68, .int (nI N), .int x2, .long x3, xmk, .int s, .int x6, W, U] [] (SH L, mi, ml, MR) (d + 1) Q = Q (some (.int s)) (SH L, mi, ml, MR) := by
  rcases hV with ⟨rfl, rfl⟩ | ⟨z, rfl, rfl⟩ | ⟨z, y, rfl, rfl⟩
  · rw [s228_59 (fun z => absurd z h6), if_neg h6]
  · rw [s228_59v2 (fun z => absurd z h6), if_neg h6]
  · rw [s228_59v3 (fun z => absurd z h6), if_neg h6]
theorem c228_95 {U : Value} {x1 x6 x7 y : Int32} {x3 : Int64} (hU : U = xmk ∨ ∃ z, U = .int z) : X 228 95 [.ref 68, .int x1, .int x2, .long x3, xmk, .int s, .int x6, .int x7, U] [.int y] (SH L, mi, ml, MR) (d + 1) Q = if y = 0 then (Xm 189 [.ref 68] (SH L, mi, ml, MR) d (fun v μ' => X 228 123 [.ref 68, .int x1, .int x2, .long x3, xmk, .int s, .int x6, .int x7, U] (v.toList ++ []) μ' (d + 1) Q)) else (Xm 193 [.ref 68, .int x7] (SH L, mi, ml, MR) d (fun v μ' => X 228 104 [.ref 68, .int x1, .int x2, .long x3, xmk, .int s, .int x6, .int x7, U] (v.toList ++ []) μ' (d + 1) Q)) := by
  rcases hU with rfl | ⟨z, rfl⟩
  · exact s228_95
  · exact s228_95v2
theorem c228_104 {U : Value} {x1 x6 x7 : Int32} {x3 : Int64} (hU : U = xmk ∨ ∃ z, U = .int z) : X 228 104 [.ref 68, .int x1, .int x2, .long x3, xmk, .int s, .int x6, .int x7, U] [] (SH L, mi, ml, MR) d Q = X 228 59 [.ref 68, .int x1, .int x2, .long x3, xmk, .int (s + (mi 77 (14 : Int32).toNatClampNeg)), .int (x6 + 1), .int x7, U] [] (SH L, mi, ml, MR) d Q := by
  rcases hU with rfl | ⟨z, rfl⟩
  · exact s228_104
  · exact s228_104v2
theorem c228_123 {U : Value} {x1 x6 x7 : Int32} {x3 : Int64} (hU : U = xmk ∨ ∃ z, U = .int z) : X 228 123 [.ref 68, .int x1, .int x2, .long x3, xmk, .int s, .int x6, .int x7, U] [] (SH L, mi, ml, MR) (d + 1) Q = Xm 191 [.ref 68, .int x7] (SH L, mi, ml, MR) d (fun v μ' => X 228 129 [.ref 68, .int x1, .int x2, .long x3, xmk, .int s, .int x6, .int x7, U] (v.toList ++ []) μ' (d + 1) Q) := by
  rcases hU with rfl | ⟨z, rfl⟩
  · exact s228_123
  · exact s228_123v2
theorem c228_129 {U : Value} {x1 x6 x7 y : Int32} {x3 : Int64} (hU : U = xmk ∨ ∃ z, U = .int z) (hx : xin (0 + x7) 15 = true) : X 228 129 [.ref 68, .int x1, .int x2, .long x3, xmk, .int s, .int x6, .int x7, U] [.int y] (SH L, mi, ml, MR) d Q = if (y = 0) then (X 228 59 [.ref 68, .int x1, .int x2, .long x3, xmk, .int s, .int (x6 + 1), .int x7, .int 13] [] (SH L, (xw mi 77 (13 : Int32).toNatClampNeg ((mi 77 (13 : Int32).toNatClampNeg) + 1)), ml, MR) d Q) else (if ((lg_cmp (x3 - x3 / 3 * 3) 0) = 0) then (X 228 59 [.ref 68, .int x1, .int x2, .long x3, xmk, .int s, .int (x6 + 1), .int x7, .int (0 + x7)] [] (SH L, (xw mi 77 (0 + x7).toNatClampNeg ((mi 77 (0 + x7).toNatClampNeg) + 1)), ml, MR) d Q) else (X 228 59 [.ref 68, .int x1, .int x2, .long x3, xmk, .int s, .int (x6 + 1), .int x7, .int 13] [] (SH L, (xw mi 77 (13 : Int32).toNatClampNeg ((mi 77 (13 : Int32).toNatClampNeg) + 1)), ml, MR) d Q)) := by
  rcases hU with rfl | ⟨z, rfl⟩
  · exact s228_129 (fun _ _ => hx) (fun _ _ => hx)
  · exact s228_129v2 (fun _ _ => hx) (fun _ _ => hx)
theorem c228_loop (h0 : 0 < P.length) (hN : N < 100) : ∀ n k v D s mi W U, k + n = N → ok P D K → D.length + n ≤ 40 → v < 2147483647 → v3 W U → Mst R T P D K S mi ml → (∀ mi', Mst R T P (lotsN P n v D s).1 K S mi' ml → sameC mi mi' ml ml → Q (some (.int (nI (lotsN P n v D s).2))) (SH L, mi', ml, MR)) → X 228 59 [.ref 68, .int (nI N), .int x2, .long (nL v), xmk, .int (nI s), .int (nI k), W, U] [] (SH L, mi, ml, MR) (d + 5) Q := by
  intro n
  induction n with
  | zero =>
    intro k v D s mi V W hk hok hl hv hV h q
    rw [c228_end hV (nI_nlt (by omega) (by omega))]
    exact q mi h sameC_rf
  | succ n ih =>
    intro k v D s mi W U hk hok hl hv hV h q
    have hP := hok.1.1
    have hlt := lotN_lt v
    have hb := rep_le P D
    have hiP : lotN v / 8 % P.length < P.length := Nat.mod_lt _ h0
    generalize hi : lotN v / 8 % P.length = i at hiP
    have hbi := hb.2 i
    have hU : U = xmk ∨ ∃ z, U = .int z := by
      rcases hV with ⟨_, z⟩ | ⟨_, _, z⟩ | ⟨_, y, _, z⟩
      · exact Or.inl z
      · exact Or.inl z
      · exact Or.inr ⟨y, z⟩
    have hV' : ∀ z, v3 (.int z) U := fun z => by
      rcases hU with e | ⟨y, e⟩
      · exact Or.inr (Or.inl ⟨z, rfl, e⟩)
      · exact Or.inr (Or.inr ⟨z, y, rfl, e⟩)
    have hnew : ok P (D ++ [lotC P D (lotN v)]) K := ⟨hok.1, okD_add hok.2.1 (by omega) (lotC_ok h0 hP), hok.2.2⟩
    have hlen : (D ++ [lotC P D (lotN v)]).length + n ≤ 40 := by rw [List.length_append, List.length_singleton]; omega
    rw [c228_head hok.1 hok.2.1 h h0 hv (by omega) hN hV hi, c228_95 hU]
    by_cases ha : mayP (pl P i) (gW (rep P D) i) (gP (rep P D) i) (gE (rep P D) i) (gD (rep P D))
    · have hC := lotC_2 hi ha
      have e : lotsN P (n + 1) v D s = lotsN P n (lotN v) (D ++ [10 * 2 + i]) (s + gL (rep P (D ++ [10 * 2 + i]))) := by
        show lotsN P n _ _ _ = _
        rw [hC, if_pos (by omega)]
      rw [e] at q
      rw [hC] at hnew hlen
      rw [bI_t ha, if_neg i1_ne0]
      refine c193 (d := d + 1) hok hiP h (by omega) (fun mi' h' s' => ?_)
      rw [ret0, c228_104 hU, mg_l (mG_g h'.2.2.1), nI_1, nI_add]
      exact ih (k + 1) (lotN v) _ _ mi' _ _ (by omega) hnew hlen hlt (hV' _) h' (fun mi2 h2 s2 => q mi2 h2 (sameC_tr s' s2))
    · have hg1 : mgR (xw (xcpy mi 77 0 78 (15 * D.length) 15) 68 10 (nI (D.length + 1))) (rep P D) := fun k hk => by
        rw [deed_77]
        exact h.2.2.1.2.2.2.1 k hk
      have e0 : (0 + nI i).toNatClampNeg = i := by rw [show (0 : Int32) = nI 0 from rfl, nI_add, Nat.zero_add, nI_clamp (by omega)]
      rw [bI_f ha, if_pos rfl, c189 h.2.2.1.2.1 (by omega), ret0, c228_123 hU, c191 (by omega) hg1 (by omega), ret1, c228_129 hU (xin_w (by omega)), mg_d hg1, nI_1, nI_1, mg_w hg1 (by omega), nI_1, e0, show (13 : Int32).toNatClampNeg = 13 from rfl]
      by_cases hw : (gE (rep P D) i = false ∧ gW (rep P D) i < 9) ∧ lotN v % 3 = 0
      · have hC := lotC_1 hi ha hw
        have e : lotsN P (n + 1) v D s = lotsN P n (lotN v) (D ++ [10 * 1 + i]) s := by
          show lotsN P n _ _ _ = _
          rw [hC, if_neg (by omega)]
        rw [e] at q
        rw [hC] at hnew hlen
        rw [bI_t hw.1, if_neg i1_ne0, if_pos ((lot_3 hlt).mpr hw.2)]
        have hM := Mst_water (i := i) (by omega) h
        exact ih (k + 1) (lotN v) _ _ _ _ _ (by omega) hnew hlen hlt (Or.inr (Or.inr ⟨_, _, rfl, rfl⟩)) hM.1 (fun mi2 h2 s2 => q mi2 h2 (sameC_tr hM.2 s2))
      · have hC := lotC_0 hi ha hw
        have e : lotsN P (n + 1) v D s = lotsN P n (lotN v) (D ++ [10 * 0 + 0]) s := by
          show lotsN P n _ _ _ = _
          rw [hC, if_neg (by omega)]
        rw [e] at q
        rw [hC] at hnew hlen
        have hM := Mst_day h
        have day := ih (k + 1) (lotN v) _ s _ (.int (nI i)) (.int 13) (by omega) hnew hlen hlt (Or.inr (Or.inr ⟨_, _, rfl, rfl⟩)) hM.1 (fun mi2 h2 s2 => q mi2 h2 (sameC_tr hM.2 s2))
        by_cases hw1 : gE (rep P D) i = false ∧ gW (rep P D) i < 9
        · rw [bI_t hw1, if_neg i1_ne0, if_neg (fun z => hw ⟨hw1, (lot_3 hlt).mp z⟩)]
          exact day
        · rw [bI_f hw1, if_pos rfl]
          exact day
end LOTS
theorem c22n {D : List Nat} {n L : Nat} {mi : Nat → Nat → Int32} {ml : Nat → Nat → Int64} {d : Nat} {Q : Option Value → xM → Prop} (hst : stR mi 40 (some (D.map nI))) (hD : D.length ≤ 40) (hn : n < 100) : Xm 22 [.ref 38, .int (nI n)] (SH L, mi, ml, MR) (d + 1) Q = Q (some (.int (bI (40 < D.length + n)))) (SH L, mi, ml, MR) := by
  rw [s22, c88 (sh40 L) hst, ret1, s22_7, show szI (some (D.map nI)) = nI D.length from congrArg nI (List.length_map _), nI_add]
  by_cases h : 40 < D.length + n
  · rw [if_pos (show (40 : Int32) < nI (D.length + n) from nI_lt (a := 40) h (by omega)), bI_t h]
  · rw [if_neg (show ¬ (40 : Int32) < nI (D.length + n) from nI_nlt (a := 40) (by omega) (by omega)), bI_f h]
theorem op_lots (x1 x2 : Int32) : OpI 133 228 [.int x1, .int x2] := op_of fun R T P D K S hok => by
  have hP := hok.1.1
  have hD := hok.2.1.1
  have i1 : (1 : Int32).toInt = 1 := rfl
  have i20 : (20 : Int32).toInt = 20 := rfl
  have i46 : (2147483646 : Int32).toInt = 2147483646 := rfl
  have i47 : (2147483647 : Int32).toInt = 2147483647 := rfl
  have i0 : (0 : Int32).toInt = 0 := rfl
  have hlg : (lg_cmp x2.toInt64 2147483647 < 0) ↔ x2 < 2147483647 := by
    rw [lg_lt, show (2147483647 : Int64) = (2147483647 : Int32).toInt64 from rfl, wide_lt]
  have q1 : (1 : Int64) = (1 : Int32).toInt64 := rfl
  have q20 : (20 : Int64) = (20 : Int32).toInt64 := rfl
  have q46 : (2147483646 : Int64) = (2147483646 : Int32).toInt64 := rfl
  have hmx := x2.toInt_lt
  by_cases hn : ¬ x1 < 1 ∧ ¬ 20 < x1
  · by_cases hs : ¬ x2 < 1 ∧ ¬ 2147483646 < x2
    · obtain ⟨n, hn1, rfl⟩ : ∃ k, k < 2 ^ 31 ∧ x1 = nI k := (i32_cases x1).resolve_left (fun z => hn.1 (by rw [Int32.lt_iff_toInt_lt] at *; omega))
      obtain ⟨v, hv1, rfl⟩ : ∃ k, k < 2 ^ 31 ∧ x2 = nI k := (i32_cases x2).resolve_left (fun z => hs.1 (by rw [Int32.lt_iff_toInt_lt] at *; omega))
      have hn2 : 1 ≤ n ∧ n ≤ 20 := by
        have a1 := hn.1
        have a2 := hn.2
        rw [Int32.lt_iff_toInt_lt, nI_toInt (by omega)] at a1 a2
        omega
      have hv2 : v < 2147483647 := by
        have a2 := hs.2
        rw [Int32.lt_iff_toInt_lt, nI_toInt (by omega)] at a2
        omega
      have hvI : nI v < 2147483647 := nI_lt (b := 2147483647) hv2 (by omega)
      have C1 : ∀ L mi ml Q, Cst R T P D K S mi ml → Xm 133 [.ref 2, .int (nI n), .int (nI v)] (SH L, mi, ml, MR) 99 Q = if (0 : Int32) < nI P.length then X 133 48 [.ref 2, .int (nI n), .int (nI v)] [.int (bI (40 < D.length + n))] (SH L, mi, ml, MR) 99 Q else Q (some (.int (-4))) (SH L, mi, ml, MR) := fun L mi ml Q h => by
        rw [s133, if_neg hn.1, if_neg hn.2, if_neg hs.1, if_pos (hlg.mpr hvI), s17, h.2.2.1.1]
        by_cases h0 : (0 : Int32) < nI P.length
        · rw [if_pos h0, if_pos h0, ret1, s133_34, if_pos rfl, c22n h.2.2.1.2.2.2.1 hD (by omega), ret1]
        · rw [if_neg h0, if_neg h0, ret1, s133_34, if_neg i1_ne0]
      have M1 : ∀ L mi ml Q, Mst R T P D K S mi ml → Xm 228 [.ref 68, .int (nI n), .int (nI v)] (SH L, mi, ml, MR) 99 Q = (if (nI P.length = 0) then (Q (some (.int (-4))) (SH L, mi, ml, MR)) else (if ((40 : Int32) < (nI D.length + nI n)) then (Q (some (.int (-2))) (SH L, mi, ml, MR)) else (X 228 59 [.ref 68, .int (nI n), .int (nI v), .long (nI v).toInt64, xmk, .int 0, .int 0, xmk, xmk] [] (SH L, mi, ml, MR) 99 Q))) := fun L mi ml Q h => by
        rw [s228, q1, q20, c149, ret1, bI_t hn, s228_9, if_neg i1_ne0, q1, q46, c149, ret1, bI_t hs, s228_21, if_neg i1_ne0, h.2.2.1.1, h.2.2.1.2.1]
      by_cases h0 : P.length = 0
      · refine ex_ret (.int (-4)) ⟨_, rfl⟩ hok (fun L mi ml Q h k => ?_) (fun L mi ml Q h k => ?_)
        · rw [C1 L mi ml Q h, h0, if_neg (by decide)]; exact k mi ml h sameM_rf
        · rw [M1 L mi ml Q h, h0, if_pos (by decide)]; exact k mi ml h sameC_rf
      by_cases h4 : 40 < D.length + n
      · refine ex_ret (.int (-2)) ⟨_, rfl⟩ hok (fun L mi ml Q h k => ?_) (fun L mi ml Q h k => ?_)
        · rw [C1 L mi ml Q h, if_pos ((nI_pos_iff (by omega)).mpr (by omega)), bI_t h4, s133_48, if_neg i1_ne0]; exact k mi ml h sameM_rf
        · rw [M1 L mi ml Q h, if_neg (nI_ne0 (by omega) (by omega)), nI_add, if_pos (show (40 : Int32) < nI (D.length + n) from nI_lt (a := 40) h4 (by omega))]; exact k mi ml h sameC_rf
      refine ⟨.int (nI (lotsN P n v D 0).2), R, T, P, (lotsN P n v D 0).1, K, S, ⟨_, rfl⟩, lotsN_ok (by omega) n v D 0 hok (by omega), (fun L mi ml Q h k => ?_), (fun L mi ml Q h k => ?_)⟩
      · rw [C1 L mi ml Q h, if_pos ((nI_pos_iff (by omega)).mpr (by omega)), bI_f h4, s133_48, if_pos rfl, s28, nI_L (by omega)]
        refine c28_loop (d := 94) (N := n) (by omega) (by omega) n 0 v D 0 mi xmk xmk (by omega) hok (by omega) hv2 (Or.inl ⟨rfl, rfl⟩) h (fun mi' h' s' => ?_)
        rw [ret1, s133_63]
        exact k _ _ h' s'
      · rw [M1 L mi ml Q h, if_neg (nI_ne0 (by omega) (by omega)), nI_add, if_neg (show ¬ (40 : Int32) < nI (D.length + n) from nI_nlt (a := 40) (by omega) (by omega)), nI_L (by omega)]
        exact c228_loop (d := 94) (N := n) (by omega) (by omega) n 0 v D 0 mi xmk xmk (by omega) hok (by omega) hv2 (Or.inl ⟨rfl, rfl⟩) h (fun mi' h' s' => k _ _ h' s')
    · refine ex_ret (.int (-1)) ⟨_, rfl⟩ hok (fun L mi ml Q h k => ?_) (fun L mi ml Q h k => ?_)
      · rw [s133, if_neg hn.1, if_neg hn.2]
        by_cases h1 : x2 < 1
        · rw [if_pos h1]; exact k mi ml h sameM_rf
        · have h2 : 2147483646 < x2 := Classical.byContradiction (fun z => hs ⟨h1, z⟩)
          rw [if_neg h1, if_neg (fun z => by have z := hlg.mp z; rw [Int32.lt_iff_toInt_lt] at z h2; omega)]; exact k mi ml h sameM_rf
      · rw [s228, q1, q20, c149, ret1, bI_t hn, s228_9, if_neg i1_ne0, q1, q46, c149, ret1, bI_f hs, s228_21, if_pos rfl]; exact k mi ml h sameC_rf
  · refine ex_ret (.int (-1)) ⟨_, rfl⟩ hok (fun L mi ml Q h k => ?_) (fun L mi ml Q h k => ?_)
    · rw [s133]
      by_cases h1 : x1 < 1
      · rw [if_pos h1]; exact k mi ml h sameM_rf
      · have h2 : 20 < x1 := Classical.byContradiction (fun z => hn ⟨h1, z⟩)
        rw [if_neg h1, if_pos h2]; exact k mi ml h sameM_rf
    · rw [s228, q1, q20, c149, ret1, bI_f hn, s228_9, if_pos rfl]; exact k mi ml h sameC_rf
