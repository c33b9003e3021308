/-! scratch cells; the harvest -/
section SCR
variable {R T : pR} {P : pP} {D : List Nat} {K : Nat → Option (List Nat)} {S : pS} {mi mi' : Nat → Nat → Int32} {ml ml' : Nat → Nat → Int64}
theorem Cst_scr (hP : P.length ≤ 6) (h : Cst R T P D K S mi ml) (hc : ∀ a j, a < 35 ∨ (38 ≤ a ∧ a < 48) ∨ 65 ≤ a → mi' a j = mi a j) (hl : ∀ a j, a ≠ 66 → ml' a j = ml a j) : Cst R T P D K S mi' ml' ∧ sameM mi mi' ml ml' :=
  ⟨⟨cR_congr h.1 (fun a j _ _ => hc a j (by omega)), cT_congr h.2.1 (fun a j _ _ => hc a j (by omega)), cG_congr hP h.2.2.1 (fun a j _ _ => hc a j (by omega)), cK_congr h.2.2.2.1 (fun a j _ _ => hc a j (by omega)), cS_congr h.2.2.2.2 (fun j => hc 2 j (by omega)) (fun j => hc 67 j (by omega)) (fun j => hl 65 j (by omega))⟩, fun a j ha => hc a j (by omega), fun a j ha => hl a j (by omega)⟩
theorem Mst_scr (h : Mst R T P D K S mi ml) (h8 : ∀ j, j < 19 → mi' 68 j = mi 68 j) (hc : ∀ a j, a ≠ 68 → a < 82 → mi' a j = mi a j) : Mst R T P D K S mi' ml ∧ sameC mi mi' ml ml :=
  ⟨⟨mR_congr h.1 (fun j => hc _ j (by omega) (by omega)) (fun j => hc _ j (by omega) (by omega)), mT_congr h.2.1 (fun j => hc _ j (by omega) (by omega)) (fun j => hc _ j (by omega) (by omega)), mG_congr h.2.2.1 (h8 4 (by omega)) (h8 10 (by omega)) (fun a j _ _ => hc a j (by omega) (by omega)), mK_congr h.2.2.2.1 (fun j => hc _ j (by omega) (by omega)) (fun j => hc _ j (by omega) (by omega)), mS_congr h.2.2.2.2 (h8 14 (by omega)) (h8 17 (by omega)) (fun j => hc 81 j (by omega) (by omega)) (fun _ => rfl)⟩, fun a j ha => hc a j (by omega) (by omega), fun _ _ _ => rfl⟩
end SCR
def hvW (mi : Nat → Nat → Int32) (op nx : Nat → Nat) (n : Nat) : Nat → Nat → Int32 := fun a j => if a = 49 ∧ j < n then nI (op j) else if a = 50 ∧ j < n then nI (nx j) else mi a j
section HVW
variable {mi : Nat → Nat → Int32} {op nx : Nat → Nat} {n a j : Nat}
theorem hvW_ne (h1 : a ≠ 49) (h2 : a ≠ 50) : hvW mi op nx n a j = mi a j := by
  unfold hvW
  rw [if_neg (fun z => h1 z.1), if_neg (fun z => h2 z.1)]
theorem hvW_49 (h : j < n) : hvW mi op nx n 49 j = nI (op j) := by
  unfold hvW
  rw [if_pos ⟨rfl, h⟩]
theorem hvW_50 (h : j < n) : hvW mi op nx n 50 j = nI (nx j) := by
  unfold hvW
  rw [if_neg (by omega), if_pos ⟨rfl, h⟩]
theorem hvW_0 : hvW mi op nx 0 = mi := by
  funext a j
  unfold hvW
  rw [if_neg (by omega), if_neg (by omega)]
theorem hvW_s : xw (xw (hvW mi op nx n) 49 n (nI (op n))) 50 n (nI (nx n)) = hvW mi op nx (n + 1) := by
  funext a j
  unfold xw hvW
  by_cases h1 : a = 49
  · subst h1
    by_cases h2 : j = n
    · subst h2; simp
    · simp [h2]
      by_cases h3 : j < n
      · rw [if_pos h3, if_pos (by omega)]
      · rw [if_neg h3, if_neg (by omega)]
  · by_cases h0 : a = 50
    · subst h0
      by_cases h2 : j = n
      · subst h2; simp
      · simp [h2]
        by_cases h3 : j < n
        · rw [if_pos h3, if_pos (by omega)]
        · rw [if_neg h3, if_neg (by omega)]
    · simp [h1, h0]
theorem hvW_up {i : Nat} {x y : Nat} (hi : i < n) : xw (xw (hvW mi op nx n) 49 i (nI x)) 50 i (nI y) = hvW mi (up op i x) (up nx i y) n := by
  funext a j
  unfold xw hvW up
  by_cases h1 : a = 49
  · subst h1
    by_cases h2 : j = i
    · subst h2; simp [hi]
    · simp [h2]
  · by_cases h0 : a = 50
    · subst h0
      by_cases h2 : j = i
      · subst h2; simp [hi]
      · simp [h2]
    · simp [h1, h0]
end HVW
/-- how many pods can be picked, where nx says which is the next -/
def opX (P : pP) (g : pG) (nx : Nat → Nat) (i : Nat) : Nat := if i < P.length then (if gE g i = false ∧ ¬ ((pl P i).1 = 3 ∧ gD g % 2 = 1) then ripeP (pl P i) (gW g i) (gD g) - nx i else 0) else 0
abbrev mayX (P : pP) (g : pG) (nx : Nat → Nat) (i : Nat) : Prop := i < P.length ∧ mayP (pl P i) (gW g i) (nx i) (gE g i) (gD g)
theorem opX_pos {P : pP} {g : pG} {nx : Nat → Nat} {i : Nat} : 0 < opX P g nx i ↔ mayX P g nx i := by
  unfold opX mayX mayP
  by_cases h1 : i < P.length
  · rw [if_pos h1]
    by_cases h2 : gE g i = false ∧ ¬ ((pl P i).1 = 3 ∧ gD g % 2 = 1)
    · rw [if_pos h2]
      exact ⟨fun z => ⟨h1, h2.1, h2.2, by omega⟩, fun z => by have := z.2.2.2; omega⟩
    · rw [if_neg h2]
      exact ⟨fun z => absurd z (by omega), fun z => absurd ⟨z.2.1, z.2.2.1⟩ h2⟩
  · rw [if_neg h1]
    exact ⟨fun z => absurd z (by omega), fun z => absurd z.1 h1⟩
theorem opX_le {P : pP} {g : pG} {nx : Nat → Nat} {i : Nat} : opX P g nx i ≤ 9 := by
  have : ripeP (pl P i) (gW g i) (gD g) ≤ 9 := ripeN_le _ _ _
  unfold opX
  split
  · split <;> omega
  · omega
theorem mayX_lt {P : pP} {g : pG} {nx : Nat → Nat} {i : Nat} (h : mayX P g nx i) : nx i < 9 := by
  have h1 : ripeP (pl P i) (gW g i) (gD g) ≤ 9 := ripeN_le _ _ _
  have := h.2.2.2
  omega
def vP (v : Value) : Prop := v = xmk ∨ v = .null ∨ ∃ j, j < 6 ∧ v = .ref (42 + j)
def lastV (n k : Nat) : Value := if k = 0 then xmk else if k ≤ n then .ref (42 + (k - 1)) else .null
theorem lastV_P {n k : Nat} (hn : n ≤ 6) : vP (lastV n k) := by
  unfold lastV
  split
  · exact Or.inl rfl
  · split
    · exact Or.inr (Or.inr ⟨k - 1, (by omega : k - 1 < 6), rfl⟩)
    · exact Or.inr (Or.inl rfl)
theorem lastV_in {n k : Nat} (h : k < n) : lastV n (k + 1) = .ref (42 + k) := by
  unfold lastV
  rw [if_neg (by omega), if_pos (by omega), Nat.add_sub_cancel]
theorem lastV_out {n k : Nat} (h : ¬ k < n) : lastV n (k + 1) = .null := by
  unfold lastV
  rw [if_neg (by omega), if_neg (by omega)]
def orI (f : Nat → Int32) : Nat → Int32
  | 0 => 0
  | n + 1 => orI f n ||| f n
theorem i32_or0 (x : Int32) : x ||| 0 = x := Int32.or_zero
theorem orI_ext {f : Nat → Int32} {n : Nat} : ∀ m, (∀ j, n ≤ j → f j = 0) → orI f (n + m) = orI f n := by
  intro m h
  induction m with
  | zero => rfl
  | succ m ih =>
    show orI f (n + m) ||| f (n + m) = _
    rw [ih, h _ (by omega), i32_or0]
theorem mask_or {f : Nat → Bool} {k : Nat} (hk : k < 6) : nI (maskN f k) ||| (1 <<< (nI k &&& 31)) = nI (maskN f k + 2 ^ k) ∧ nI (maskN f k) ||| 0 = nI (maskN f k) := by
  have hlt := maskN_lt f k
  have h64 : (2 : Nat) ^ k ≤ 2 ^ 6 := Nat.pow_le_pow_right (by omega) (by omega)
  exact set_n ⟨k, hk⟩ ⟨maskN f k, by omega⟩ hlt
theorem maskN_ext {f : Nat → Bool} {n : Nat} : ∀ m, (∀ j, n ≤ j → f j = false) → maskN f (n + m) = maskN f n := by
  intro m h
  induction m with
  | zero => rfl
  | succ m ih =>
    show maskN f (n + m) + (if f (n + m) then 2 ^ (n + m) else 0) = _
    rw [ih, h _ (by omega)]
    rfl
section HARVEST
variable {P : pP} {D : List Nat} {L : Nat} {mi : Nat → Nat → Int32} {ml : Nat → Nat → Int64} {d : Nat} {Q : Option Value → xM → Prop} {i : Nat} {g : pG} {nx : Nat → Nat}
theorem c34_2 {v : Value} {x : Int32} (hv : vP v) : X 34 2 [.ref 48, .int x, v] [] (SH L, mi, ml, MR) (d + 1) Q = if x < 6 then (Xm 15 [.ref 38, .int x] (SH L, mi, ml, MR) d (fun w μ' => X 34 28 [.ref 48, .int x, v] (w.toList ++ []) μ' (d + 1) Q)) else Q none (SH L, mi, ml, MR) := by
  rcases hv with rfl | rfl | ⟨j, hj, rfl⟩
  · exact s34_2
  · exact s34_2v2
  · exact s34_2v3 (shPlant L hj).1
theorem c34_28 {v : Value} {x : Int32} {ry : Nat} (hv : vP v) (hS : (SH L)[ry]? = some (4, 7)) : X 34 28 [.ref 48, .int x, v] [.ref ry] (SH L, mi, ml, MR) (d + 1) Q = Xm 18 [.ref 38] (SH L, mi, ml, MR) d (fun v μ' => X 34 50 [.ref 48, .int x, .ref ry] (v.toList ++ [.ref ry, .int x, .ref 49]) μ' (d + 1) Q) := by
  rcases hv with rfl | rfl | ⟨j, hj, rfl⟩
  · exact s34_28 hS
  · exact s34_28v2 hS
  · exact s34_28v3 (shPlant L hj).1 hS
theorem c34_28n {v : Value} {x : Int32} (hv : vP v) (h : xin x 6 = true) : X 34 28 [.ref 48, .int x, v] [.null] (SH L, mi, ml, MR) d Q = X 34 2 [.ref 48, .int (x + 1), .null] [] (SH L, (xw (xw mi 49 x.toNatClampNeg 0) 50 x.toNatClampNeg 0), ml, MR) d Q := by
  rcases hv with rfl | rfl | ⟨j, hj, rfl⟩
  · exact s34_28n h h
  · exact s34_28nv2 h h
  · exact s34_28nv3 (shPlant L hj).1 h h
theorem c34 (hok : okP P) (hD : okD P D) (h : cG P D mi) : Xm 34 [.ref 48] (SH L, mi, ml, MR) (d + 4) Q = Q none (SH L, hvW mi (opX P (rep P D) (gP (rep P D))) (gP (rep P D)) 6, ml, MR) := by
  have hP := hok.1
  have hD1 := hD.1
  have hb := rep_le P D
  rw [s34]
  have hl := X_loop (mid := 34) (pc := 2) (d := d + 4) (Q := Q) (fun k => [.ref 48, .int (nI k), lastV P.length k]) (fun k => (SH L, hvW mi (opX P (rep P D) (gP (rep P D))) (gP (rep P D)) k, ml, MR)) 6 (fun k hk => by
    have hbk := hb.2 k
    have h2 : ∀ a j, 38 ≤ a → a < 48 → hvW mi (opX P (rep P D) (gP (rep P D))) (gP (rep P D)) k a j = mi a j := fun a j h1 h2 => hvW_ne (by omega) (by omega)
    have h' : cG P D (hvW mi (opX P (rep P D) (gP (rep P D))) (gP (rep P D)) k) := cG_congr hP h h2
    rw [c34_2 (lastV_P hP), if_pos (show nI k < 6 from nI_lt (b := 6) hk (by omega))]
    by_cases hkP : k < P.length
    · have hS := (shPlant L (i := k) (by omega)).1
      rw [c15_in hP h'.1 hkP, ret1, c34_28 (lastV_P hP) hS, s18, h'.2.1, ret1, s34_50 hS, c57 hS (cG_pl h' hkP) (hok.2 k hkP) (by omega) (by omega) (by omega), ret1, s34_53 hS (xin_nI (by omega) (by omega)) (xin_nI (by omega) (by omega)), nI_clamp (by omega), nI_1, xw_ne (by omega), (cG_pl h' hkP).2.2.2.2.2.1, lastV_in hkP]
      have e : (if gE (rep P D) k = false ∧ ¬ ((pl P k).1 = 3 ∧ gD (rep P D) % 2 = 1) then ripeP (pl P k) (gW (rep P D) k) (gD (rep P D)) - gP (rep P D) k else 0) = opX P (rep P D) (gP (rep P D)) k := by
        unfold opX
        rw [if_pos hkP]
      rw [e, hvW_s]
    · rw [c15_out h'.1 (Or.inr (nI_nlt (by omega) (by omega))), ret1, c34_28n (lastV_P hP) (xin_nI (by omega) (by omega)), nI_clamp (by omega), nI_1, lastV_out hkP]
      have e1 : (0 : Int32) = nI (opX P (rep P D) (gP (rep P D)) k) := by
        unfold opX
        rw [if_neg hkP]
        rfl
      have e2 : (0 : Int32) = nI (gP (rep P D) k) := by
        rw [(rep_out' hD (Nat.le_of_not_lt hkP)).2]
        rfl
      have e3 := hvW_s (mi := mi) (op := opX P (rep P D) (gP (rep P D))) (nx := gP (rep P D)) (n := k)
      rw [← e1, ← e2] at e3
      rw [e3])
  rw [hvW_0] at hl
  refine hl.trans ?_
  rw [c34_2 (lastV_P hP), if_neg (by decide)]
/-- what the harvest holds -/
def hvR (mi : Nat → Nat → Int32) (P : pP) (g : pG) (nx : Nat → Nat) : Prop := ∀ i, i < 6 → mi 49 i = nI (opX P g nx i) ∧ mi 50 i = nI (nx i)
theorem hvW_R : hvR (hvW mi (opX P g nx) nx 6) P g nx := fun i hi => ⟨hvW_49 hi, hvW_50 hi⟩
theorem c35 (h : hvR mi P g nx) (hi : i < 6) : Xm 35 [.ref 48, .int (nI i)] (SH L, mi, ml, MR) d Q = Q (some (.int (bI (mayX P g nx i)))) (SH L, mi, ml, MR) := by
  have hle := opX_le (P := P) (g := g) (nx := nx) (i := i)
  rw [s35 (fun _ _ => xin_nI hi (by omega)), if_neg (nI_nneg (by omega)), if_pos (show nI i < 6 from nI_lt (b := 6) hi (by omega)), nI_clamp (by omega), (h i hi).1]
  by_cases hm : mayX P g nx i
  · rw [if_pos ((nI_pos_iff (by omega)).mpr (opX_pos.mpr hm)), bI_t hm]
  · rw [if_neg (fun z => hm (opX_pos.mp ((nI_pos_iff (by omega)).mp z))), bI_f hm]
theorem c36 (hok : okP P) (hg : mi 38 2 = nI P.length) (hpl : plR mi (42 + i) (pl P i) (gW g i) (gP g i) (gE g i)) (h : hvR mi P g nx) (hi : i < P.length) (hq : nx i < 1000) : Xm 36 [.ref 48, .int (nI i)] (SH L, mi, ml, MR) (d + 2) Q = Q (some (.int (nI (wordP (pl P i) (nx i))))) (SH L, mi, ml, MR) := by
  have hP := hok.1
  have hS := (shPlant L (i := i) (by omega)).1
  rw [s36, c15_in hP hg hi, ret1, s36_8 hS (fun _ => xin_nI (by omega) (by omega)), if_pos (show nI i < 6 from nI_lt (b := 6) (by omega) (by omega)), nI_clamp (by omega), (h i (by omega)).2, c53 hS hpl (hok.2 i hi) hq, ret1, s36_37 hS]
theorem c39 (h : hvR mi P g nx) : Xm 39 [.ref 48] (SH L, mi, ml, MR) (d + 1) Q = Q (some (.int (nI (maskN (fun i => decide (mayX P g nx i)) 6)))) (SH L, mi, ml, MR) := by
  rw [s39]
  have hl := X_loop (mid := 39) (pc := 4) (d := d + 1) (Q := Q) (fun k => [.ref 48, .int (nI (maskN (fun i => decide (mayX P g nx i)) k)), .int (nI k)]) (fun k => (SH L, mi, ml, MR)) 6 (fun k hk => by
    have e := mask_or (f := fun i => decide (mayX P g nx i)) hk
    rw [s39_4, if_pos (show nI k < 6 from nI_lt (b := 6) hk (by omega)), c35 h hk, ret1, s39_16, e.1, e.2, nI_1]
    show _ = X 39 4 [.ref 48, .int (nI (maskN (fun i => decide (mayX P g nx i)) k + (if decide (mayX P g nx k) = true then 2 ^ k else 0))), _] _ _ _ _
    by_cases hm : mayX P g nx k
    · rw [bI_t hm, if_neg i1_ne0, if_pos (decide_eq_true hm)]
    · rw [bI_f hm, if_pos rfl, if_neg (by simp [hm])]
      rfl)
  refine hl.trans ?_
  rw [s39_4, if_neg (by decide)]
def wbit (P : pP) (g : pG) (nx : Nat → Nat) (i : Nat) : Int32 := if mayX P g nx i then 1 <<< (nI (wordP (pl P i) (nx i)) &&& 31) else 0
theorem c40 (hok : okP P) (hg : mi 38 2 = nI P.length) (hpl : ∀ i, i < P.length → plR mi (42 + i) (pl P i) (gW g i) (gP g i) (gE g i)) (h : hvR mi P g nx) : Xm 40 [.ref 48] (SH L, mi, ml, MR) (d + 3) Q = Q (some (.int (orI (wbit P g nx) 6))) (SH L, mi, ml, MR) := by
  rw [s40]
  have hl := X_loop (mid := 40) (pc := 4) (d := d + 3) (Q := Q) (fun k => [.ref 48, .int (orI (wbit P g nx) k), .int (nI k)]) (fun k => (SH L, mi, ml, MR)) 6 (fun k hk => by
    rw [s40_4, if_pos (show nI k < 6 from nI_lt (b := 6) hk (by omega)), c35 h hk, ret1, s40_16]
    show _ = X 40 4 [.ref 48, .int (orI (wbit P g nx) k ||| wbit P g nx k), _] _ _ _ _
    unfold wbit
    by_cases hm : mayX P g nx k
    · rw [bI_t hm, if_neg i1_ne0, if_pos hm, c36 hok hg (hpl k hm.1) h hm.1 (by have := mayX_lt hm; omega), ret1, s40_25, nI_1]
    · rw [bI_f hm, if_pos rfl, if_neg hm, nI_1])
  refine hl.trans ?_
  rw [s40_4, if_neg (by decide)]
/-! the model's -/
theorem c200 (hok : okP P) (hD : gD g < 500) (hb : ∀ i, gW g i < 100 ∧ gP g i < 100) (h4 : mi 68 4 = nI P.length) (hg : mgR mi g) (hm : ∀ i, i < P.length → mpR mi i (pl P i)) : Xm 200 [.ref 68] (SH L, mi, ml, MR) (d + 5) Q = Q (some (.int (nI (maskN (fun i => decide (mayX P g (gP g) i)) 6)))) (SH L, mi, ml, MR) := by
  have hP := hok.1
  rw [s200]
  have hl := X_loop (mid := 200) (pc := 4) (d := d + 5) (Q := Q) (fun k => [.ref 68, .int (nI (maskN (fun i => decide (mayX P g (gP g) i)) k)), .int (nI k)]) (fun k => (SH L, mi, ml, MR)) P.length (fun k hk => by
    have e := mask_or (f := fun i => decide (mayX P g (gP g) i)) (k := k) (by omega)
    have hbk := hb k
    rw [s200_4, h4, if_pos (nI_lt hk (by omega)), c183 (by omega) hg (hm k hk) (hok.2 k hk) hD hbk.1 hbk.2, ret1, s200_18, e.1, e.2, nI_1]
    show _ = X 200 4 [.ref 68, .int (nI (maskN (fun i => decide (mayX P g (gP g) i)) k + (if decide (mayX P g (gP g) k) = true then 2 ^ k else 0))), _] _ _ _ _
    by_cases hmm : mayP (pl P k) (gW g k) (gP g k) (gE g k) (gD g)
    · rw [bI_t hmm, if_neg i1_ne0, if_pos (decide_eq_true (show mayX P g (gP g) k from ⟨hk, hmm⟩))]
    · rw [bI_f hmm, if_pos rfl, if_neg (fun z => hmm (of_decide_eq_true z).2)]
      rfl)
  refine hl.trans ?_
  rw [s200_4, h4, if_neg (nI_nlt (by omega) (by omega))]
  have e := maskN_ext (f := fun i => decide (mayX P g (gP g) i)) (n := P.length) (6 - P.length) (fun j hj => decide_eq_false (fun z => by have := z.1; omega))
  rw [show P.length + (6 - P.length) = 6 by omega] at e
  rw [e]
theorem c201 (hi : i < 6) (hg : mgR mi g) (h : mpR mi i (pl P i)) (hp : okp (pl P i)) (hq : gP g i < 1000) : Xm 201 [.ref 68, .int (nI i)] (SH L, mi, ml, MR) (d + 2) Q = Q (some (.int (nI (wordP (pl P i) (gP g i))))) (SH L, mi, ml, MR) := by
  rw [s201 (xin_p hi), mg_p hg hi, c180 hi h hp hq, ret1, s201_14]
end HARVEST
theorem op_ripe : OpI 119 202 [] := op_of fun R T P D K S hok => by
  have hP := hok.1.1
  have hD := hok.2.1.1
  have hb := rep_le P D
  by_cases h0 : P.length = 0
  · refine ex_ret (.int (-4)) ⟨_, rfl⟩ hok (fun L mi ml Q h k => ?_) (fun L mi ml Q h k => ?_)
    · rw [s119, s17, h.2.2.1.1, h0, if_neg (by decide), ret1, s119_7, if_neg i1_ne0]; exact k mi ml h sameM_rf
    · rw [s202, h.2.2.1.1, h0, if_pos (by decide)]; exact k mi ml h sameC_rf
  refine ex_S (.int (nI (maskN (fun i => decide (mayX P (rep P D) (gP (rep P D)) i)) 6))) (sTold (orI (wbit P (rep P D) (gP (rep P D))) 6) S) ⟨_, rfl⟩ hok (fun L mi ml Q h k => ?_) (fun L mi ml Q h k => ?_)
  · have h1 := Cst_scr (mi' := hvW mi (opX P (rep P D) (gP (rep P D))) (gP (rep P D)) 6) (ml' := ml) hP h (fun a j ha => hvW_ne (by omega) (by omega)) (fun _ _ _ => rfl)
    have h2 := Cst_told (v := orI (wbit P (rep P D) (gP (rep P D))) 6) hP h1.1
    have hR : hvR (xw (hvW mi (opX P (rep P D) (gP (rep P D))) (gP (rep P D)) 6) 2 11 (orI (wbit P (rep P D) (gP (rep P D))) 6)) P (rep P D) (gP (rep P D)) := fun i hi => ⟨by rw [xw_ne (by omega), hvW_49 hi], by rw [xw_ne (by omega), hvW_50 hi]⟩
    rw [s119, s17, h.2.2.1.1, if_pos ((nI_pos_iff (by omega)).mpr (by omega)), ret1, s119_7, if_pos rfl, c34 hok.1 hok.2.1 h.2.2.1, ret0, s119_20, c40 hok.1 h1.1.2.2.1.1 (fun i hi => cG_pl h1.1.2.2.1 hi) hvW_R, ret1, s119_28, c39 hR, ret1, s119_38]
    exact k _ _ h2.1 (sameM_tr h1.2 h2.2)
  · have hg := mG_g h.2.2.1
    have hbb : ∀ i, gW (rep P D) i < 100 ∧ gP (rep P D) i < 100 := fun i => by have := hb.2 i; omega
    rw [s202, h.2.2.1.1, if_neg (nI_ne0 (by omega) (by omega)), c200 hok.1 (by omega) hbb h.2.2.1.1 hg (fun i hi => mG_pl h.2.2.1 hi), ret1, s202_14]
    have hl := X_loop (mid := 202) (pc := 19) (d := 99) (Q := Q) (fun k => [.ref 68, .int (nI (maskN (fun i => decide (mayX P (rep P D) (gP (rep P D)) i)) 6)), .int (orI (wbit P (rep P D) (gP (rep P D))) k), .int (nI k)]) (fun k => (SH L, mi, ml, MR)) P.length (fun k hk => by
      rw [s202_19, h.2.2.1.1, if_pos (nI_lt hk (by omega)), c150 (by omega), ret1, s202_33]
      show _ = X 202 19 [.ref 68, _, .int (orI (wbit P (rep P D) (gP (rep P D))) k ||| wbit P (rep P D) (gP (rep P D)) k), _] _ _ _ _
      unfold wbit
      by_cases hm : mayX P (rep P D) (gP (rep P D)) k
      · rw [bI_t (decide_eq_true hm), if_neg i1_ne0, if_pos hm, c201 (by omega) hg (mG_pl h.2.2.1 hk) (hok.1.2 k hk) (by have := hbb k; omega), ret1, s202_42, nI_1]
      · rw [bI_f (by simp [hm]), if_pos rfl, if_neg hm, nI_1])
    refine Eq.mpr hl ?_
    rw [s202_19, h.2.2.1.1, if_neg (nI_nlt (by omega) (by omega)), s154, ret1, s202_61]
    have e := orI_ext (f := wbit P (rep P D) (gP (rep P D))) (n := P.length) (6 - P.length) (fun j hj => by unfold wbit; rw [if_neg (fun z => by have := z.1; omega)])
    rw [show P.length + (6 - P.length) = 6 by omega] at e
    rw [← e]
    exact k _ _ (Mst_told h).1 (Mst_told h).2
