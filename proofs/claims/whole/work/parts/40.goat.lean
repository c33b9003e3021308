/-! goat -/
def popI (x0 : Int32) : Int32 := ((((((((x0 - ((x0.toUInt32 >>> (Int32.toUInt32 1 &&& Int32.toUInt32 31)).toInt32 &&& 1431655765)) &&& 858993459) + (((x0 - ((x0.toUInt32 >>> (Int32.toUInt32 1 &&& Int32.toUInt32 31)).toInt32 &&& 1431655765)).toUInt32 >>> (Int32.toUInt32 2 &&& Int32.toUInt32 31)).toInt32 &&& 858993459)) + ((((x0 - ((x0.toUInt32 >>> (Int32.toUInt32 1 &&& Int32.toUInt32 31)).toInt32 &&& 1431655765)) &&& 858993459) + (((x0 - ((x0.toUInt32 >>> (Int32.toUInt32 1 &&& Int32.toUInt32 31)).toInt32 &&& 1431655765)).toUInt32 >>> (Int32.toUInt32 2 &&& Int32.toUInt32 31)).toInt32 &&& 858993459)).toUInt32 >>> (Int32.toUInt32 4 &&& Int32.toUInt32 31)).toInt32) &&& 252645135) + ((((((x0 - ((x0.toUInt32 >>> (Int32.toUInt32 1 &&& Int32.toUInt32 31)).toInt32 &&& 1431655765)) &&& 858993459) + (((x0 - ((x0.toUInt32 >>> (Int32.toUInt32 1 &&& Int32.toUInt32 31)).toInt32 &&& 1431655765)).toUInt32 >>> (Int32.toUInt32 2 &&& Int32.toUInt32 31)).toInt32 &&& 858993459)) + ((((x0 - ((x0.toUInt32 >>> (Int32.toUInt32 1 &&& Int32.toUInt32 31)).toInt32 &&& 1431655765)) &&& 858993459) + (((x0 - ((x0.toUInt32 >>> (Int32.toUInt32 1 &&& Int32.toUInt32 31)).toInt32 &&& 1431655765)).toUInt32 >>> (Int32.toUInt32 2 &&& Int32.toUInt32 31)).toInt32 &&& 858993459)).toUInt32 >>> (Int32.toUInt32 4 &&& Int32.toUInt32 31)).toInt32) &&& 252645135).toUInt32 >>> (Int32.toUInt32 8 &&& Int32.toUInt32 31)).toInt32) + (((((((x0 - ((x0.toUInt32 >>> (Int32.toUInt32 1 &&& Int32.toUInt32 31)).toInt32 &&& 1431655765)) &&& 858993459) + (((x0 - ((x0.toUInt32 >>> (Int32.toUInt32 1 &&& Int32.toUInt32 31)).toInt32 &&& 1431655765)).toUInt32 >>> (Int32.toUInt32 2 &&& Int32.toUInt32 31)).toInt32 &&& 858993459)) + ((((x0 - ((x0.toUInt32 >>> (Int32.toUInt32 1 &&& Int32.toUInt32 31)).toInt32 &&& 1431655765)) &&& 858993459) + (((x0 - ((x0.toUInt32 >>> (Int32.toUInt32 1 &&& Int32.toUInt32 31)).toInt32 &&& 1431655765)).toUInt32 >>> (Int32.toUInt32 2 &&& Int32.toUInt32 31)).toInt32 &&& 858993459)).toUInt32 >>> (Int32.toUInt32 4 &&& Int32.toUInt32 31)).toInt32) &&& 252645135) + ((((((x0 - ((x0.toUInt32 >>> (Int32.toUInt32 1 &&& Int32.toUInt32 31)).toInt32 &&& 1431655765)) &&& 858993459) + (((x0 - ((x0.toUInt32 >>> (Int32.toUInt32 1 &&& Int32.toUInt32 31)).toInt32 &&& 1431655765)).toUInt32 >>> (Int32.toUInt32 2 &&& Int32.toUInt32 31)).toInt32 &&& 858993459)) + ((((x0 - ((x0.toUInt32 >>> (Int32.toUInt32 1 &&& Int32.toUInt32 31)).toInt32 &&& 1431655765)) &&& 858993459) + (((x0 - ((x0.toUInt32 >>> (Int32.toUInt32 1 &&& Int32.toUInt32 31)).toInt32 &&& 1431655765)).toUInt32 >>> (Int32.toUInt32 2 &&& Int32.toUInt32 31)).toInt32 &&& 858993459)).toUInt32 >>> (Int32.toUInt32 4 &&& Int32.toUInt32 31)).toInt32) &&& 252645135).toUInt32 >>> (Int32.toUInt32 8 &&& Int32.toUInt32 31)).toInt32).toUInt32 >>> (Int32.toUInt32 16 &&& Int32.toUInt32 31)).toInt32) &&& 63)
def cntN (m : Nat) : Nat := m % 2 + m / 2 % 2 + m / 4 % 2 + m / 8 % 2 + m / 16 % 2 + m / 32 % 2
theorem popI_n : ∀ m : Fin 64, popI (nI m.val) = nI (cntN m.val) := by decide +kernel
theorem low_n : ∀ m : Fin 64, m.val ≠ 0 → ∃ r : Fin 64, r.val < m.val ∧ nI m.val &&& (nI m.val - 1) = nI r.val ∧ cntN m.val = 1 + cntN r.val := by decide +kernel
theorem set_n : ∀ k : Fin 6, ∀ m : Fin 64, m.val < 2 ^ k.val → nI m.val ||| (1 <<< (nI k.val &&& 31)) = nI (m.val + 2 ^ k.val) ∧ nI m.val ||| 0 = nI m.val := by decide +kernel
theorem maskN_lt (f : Nat → Bool) : ∀ k, maskN f k < 2 ^ k := by
  intro k
  induction k with
  | zero => exact Nat.zero_lt_one
  | succ k ih =>
    unfold maskN
    rw [Nat.pow_succ]
    split <;> omega
theorem left_n (f : Nat → Bool) {n : Nat} (hn : n ≤ 6) : ((1 <<< (nI n &&& 31)) - 1) &&& (nI (maskN f 6) ^^^ (-1)) = nI (maskN (fun j => !f j) n) := by
  have key : ∀ b0 b1 b2 b3 b4 b5 : Bool, ∀ n : Fin 7, ((1 <<< (nI n.val &&& 31)) - 1) &&& (nI (maskN (fun n => [b0, b1, b2, b3, b4, b5].getD n false) 6) ^^^ (-1)) = nI (maskN (fun n => !([b0, b1, b2, b3, b4, b5].getD n false)) n.val) := by decide +kernel
  have k := key (f 0) (f 1) (f 2) (f 3) (f 4) (f 5) ⟨n, by omega⟩
  have e : maskN (fun n => [f 0, f 1, f 2, f 3, f 4, f 5].getD n false) 6 = maskN f 6 := rfl
  rw [e] at k
  rw [k]
  rcases (by omega : n = 0 ∨ n = 1 ∨ n = 2 ∨ n = 3 ∨ n = 4 ∨ n = 5 ∨ n = 6) with rfl | rfl | rfl | rfl | rfl | rfl | rfl <;> rfl
theorem or_n (f : Nat → Bool) {i : Nat} (hi : i < 6) : nI (maskN f 6) ||| (1 <<< (nI i &&& 31)) = nI (maskN (up f i true) 6) := by
  have key : ∀ b0 b1 b2 b3 b4 b5 : Bool, ∀ i : Fin 6, nI (maskN (fun n => [b0, b1, b2, b3, b4, b5].getD n false) 6) ||| (1 <<< (nI i.val &&& 31)) = nI (maskN (up (fun n => [b0, b1, b2, b3, b4, b5].getD n false) i.val true) 6) := by decide +kernel
  have k := key (f 0) (f 1) (f 2) (f 3) (f 4) (f 5) ⟨i, hi⟩
  have e : maskN (fun n => [f 0, f 1, f 2, f 3, f 4, f 5].getD n false) 6 = maskN f 6 := rfl
  rw [e] at k
  rw [k]
  rcases (by omega : i = 0 ∨ i = 1 ∨ i = 2 ∨ i = 3 ∨ i = 4 ∨ i = 5) with rfl | rfl | rfl | rfl | rfl | rfl <;> rfl
section GOAT
variable {P : pP} {D : List Nat} {L : Nat} {mi : Nat → Nat → Int32} {ml : Nat → Nat → Int64} {d : Nat} {Q : Option Value → xM → Prop} {n m : Nat}
theorem c238 (hm : m < 64) : Xm 238 [.int (nI m)] (SH L, mi, ml, MR) d Q = Q (some (.int (nI (cntN m)))) (SH L, mi, ml, MR) := by
  refine s238.trans ?_
  show Q (some (.int (popI (nI m)))) _ = _
  rw [popI_n ⟨m, hm⟩]
theorem c151_loop {x : Int32} : ∀ m, m < 64 → ∀ c, X 151 4 [.int x, .int (nI c), .int (nI m)] [] (SH L, mi, ml, MR) d Q = Q (some (.int (nI (c + cntN m)))) (SH L, mi, ml, MR) := by
  intro m
  induction m using Nat.strongRecOn with
  | ind m ih =>
    intro hm c
    rw [s151_4]
    by_cases h0 : m = 0
    · subst h0
      rw [if_pos (by decide)]
      rfl
    · obtain ⟨r, hr, e1, e2⟩ := low_n ⟨m, hm⟩ h0
      have hr : r.val < m := hr
      have e1 : nI m &&& (nI m - 1) = nI r.val := e1
      have e2 : cntN m = 1 + cntN r.val := e2
      rw [if_neg (nI_ne0 (by omega) (by omega)), e1, nI_1, ih r.val hr (by omega), e2, show c + 1 + cntN r.val = c + (1 + cntN r.val) by omega]
theorem c151 (hm : m < 64) : Xm 151 [.int (nI m)] (SH L, mi, ml, MR) d Q = Q (some (.int (nI (cntN m)))) (SH L, mi, ml, MR) := by
  refine s151.trans ((c151_loop (x := nI m) m hm 0).trans ?_)
  rw [Nat.zero_add]
theorem c30 (hP : P.length ≤ 6) (h : cG P D mi) : Xm 30 [.ref 38] (SH L, mi, ml, MR) (d + 1) Q = Q (some (.int (nI (maskN (fun j => !gE (rep P D) j) P.length)))) (SH L, mi, ml, MR) := by
  rw [s30]
  have hl := X_loop (mid := 30) (pc := 4) (d := d + 1) (Q := Q) (fun k => [.ref 38, .int (nI (maskN (fun j => !gE (rep P D) j) k)), .int (nI k), if k = 0 then xmk else .ref (42 + (k - 1))]) (fun k => (SH L, mi, ml, MR)) P.length (fun k hk => by
    have hS := (shPlant L (i := k) (by omega)).1
    have hlt := maskN_lt (fun j => !gE (rep P D) j) k
    have h64 : (2 : Nat) ^ k ≤ 2 ^ 6 := Nat.pow_le_pow_right (by omega) (by omega)
    have e1 := set_n ⟨k, by omega⟩ ⟨maskN (fun j => !gE (rep P D) j) k, by omega⟩ hlt
    have fin : (if mi (42 + k) 6 = 0 then X 30 4 [.ref 38, .int (nI (maskN (fun j => !gE (rep P D) j) k) ||| (1 <<< (nI k &&& 31))), .int (nI k + 1), .ref (42 + k)] [] (SH L, mi, ml, MR) (d + 1) Q else X 30 4 [.ref 38, .int (nI (maskN (fun j => !gE (rep P D) j) k) ||| 0), .int (nI k + 1), .ref (42 + k)] [] (SH L, mi, ml, MR) (d + 1) Q) = X 30 4 [.ref 38, .int (nI (maskN (fun j => !gE (rep P D) j) (k + 1))), .int (nI (k + 1)), .ref (42 + k)] [] (SH L, mi, ml, MR) (d + 1) Q := by
      rw [(cG_pl h hk).2.2.2.2.2.2, e1.1, e1.2, nI_1]
      show _ = X 30 4 [.ref 38, .int (nI (maskN (fun j => !gE (rep P D) j) k + (if (!gE (rep P D) k) = true then 2 ^ k else 0))), _, _] _ _ _ _
      cases gE (rep P D) k
      · rw [if_pos (by decide), if_pos (by decide)]
      · rw [if_neg (by decide), if_neg (by decide)]
        rfl
    simp only [if_neg (Nat.succ_ne_zero k), Nat.add_sub_cancel]
    by_cases h0 : k = 0
    · rw [if_pos h0, s30_4, h.1, if_pos (nI_lt hk (by omega)), c15_in hP h.1 hk, ret1, s30_17 hS]
      exact fin
    · rw [if_neg h0, s30_4v2 (shPlant L (i := k - 1) (by omega)).1, h.1, if_pos (nI_lt hk (by omega)), c15_in hP h.1 hk, ret1, s30_17v2 (shPlant L (i := k - 1) (by omega)).1 hS]
      exact fin)
  simp only [if_true] at hl
  refine hl.trans ?_
  by_cases h0 : P.length = 0
  · rw [if_pos h0, s30_4, h.1, if_neg (nI_nlt (by omega) (by omega))]
  · rw [if_neg h0, s30_4v2 (shPlant L (i := P.length - 1) (by omega)).1, h.1, if_neg (nI_nlt (by omega) (by omega))]
end GOAT
theorem op_goat (x : Int32) : OpI 115 196 [.int x] := op_of fun R T P D K S hok => by
  have hP := hok.1.1
  have hD := hok.2.1.1
  rcases num_cases x P.length (by omega) with hx | ⟨i, hi, rfl⟩
  · refine ex_ret (.int (-1)) ⟨_, rfl⟩ hok (fun L mi ml Q h k => ?_) (fun L mi ml Q h k => ?_)
    · rw [s115, c15_out h.2.2.1.1 hx, ret1, s115_8n]; exact k mi ml h sameM_rf
    · rw [s196, c172, ret1, h.2.2.1.1, bI_f (isP_out hP hx), s196_5, if_pos rfl]; exact k mi ml h sameC_rf
  have hS := fun L => (shPlant L (i := i) (by omega)).1
  have C1 : ∀ L mi ml Q, Cst R T P D K S mi ml → Xm 115 [.ref 2, .int (nI i)] (SH L, mi, ml, MR) 99 Q = X 115 8 [.ref 2, .int (nI i), xmk] [.ref (42 + i)] (SH L, mi, ml, MR) 99 Q := fun L mi ml Q h => by
    rw [s115, c15_in hP h.2.2.1.1 hi, ret1]
  have M1 : ∀ L mi ml Q, Mst R T P D K S mi ml → Xm 196 [.ref 68, .int (nI i)] (SH L, mi, ml, MR) 99 Q = X 196 21 [.ref 68, .int (nI i)] [.int (bI (gE (rep P D) i = true))] (SH L, mi, ml, MR) 99 Q := fun L mi ml Q h => by
    rw [s196, c172, ret1, h.2.2.1.1, bI_t (isP_in hi hP), s196_5, if_neg i1_ne0, mg_m (mG_g h.2.2.1), c150 (by omega), ret1]
    rfl
  by_cases he : gE (rep P D) i = true
  · refine ex_ret (.int (-4)) ⟨_, rfl⟩ hok (fun L mi ml Q h k => ?_) (fun L mi ml Q h k => ?_)
    · rw [C1 L mi ml Q h, s115_8 (hS L), (cG_pl h.2.2.1 hi).2.2.2.2.2.2, bI_t he, if_neg i1_ne0]; exact k mi ml h sameM_rf
    · rw [M1 L mi ml Q h, bI_t he, s196_21, if_neg i1_ne0]; exact k mi ml h sameC_rf
  have C2 : ∀ L mi ml Q, Cst R T P D K S mi ml → Xm 115 [.ref 2, .int (nI i)] (SH L, mi, ml, MR) 99 Q = X 115 33 [.ref 2, .int (nI i), .ref (42 + i)] [.int (bI (D.length = 40))] (SH L, mi, ml, MR) 99 Q := fun L mi ml Q h => by
    rw [C1 L mi ml Q h, s115_8 (hS L), (cG_pl h.2.2.1 hi).2.2.2.2.2.2, bI_f he, if_pos rfl, c22 h.2.2.1.2.2.2.1 hD, ret1]
  by_cases h4 : D.length = 40
  · refine ex_ret (.int (-2)) ⟨_, rfl⟩ hok (fun L mi ml Q h k => ?_) (fun L mi ml Q h k => ?_)
    · rw [C2 L mi ml Q h, bI_t h4, s115_33 (hS L), if_neg i1_ne0]; exact k mi ml h sameM_rf
    · rw [M1 L mi ml Q h, bI_f he, s196_21, if_pos rfl, h.2.2.1.2.1, if_pos (n40t h4)]; exact k mi ml h sameC_rf
  have e10 : (10 * 3 + i) % 10 = i := by omega
  have hlt : ∀ f, maskN f P.length < 64 := fun f => Nat.lt_of_lt_of_le (maskN_lt f _) (show 2 ^ P.length ≤ 2 ^ 6 from Nat.pow_le_pow_right (by omega) hP)
  refine ⟨.int (nI (cntN (maskN (fun j => !gE (rep P (D ++ [10 * 3 + i])) j) P.length))), R, T, P, D ++ [10 * 3 + i], K, S, ⟨_, rfl⟩, ⟨hok.1, okD_add hok.2.1 (by omega) ⟨by omega, by omega, by omega, by omega, fun _ => by rw [e10]; exact Bool.eq_false_iff.mpr he⟩, hok.2.2⟩, (fun L mi ml Q h k => ?_), (fun L mi ml Q h k => ?_)⟩
  · rw [C2 L mi ml Q h, bI_f h4, s115_33 (hS L), if_pos rfl]
    refine c23 (what := 3) hok h (by omega) hi (by omega) (fun mi' h' s' => ?_)
    rw [ret0, s115_48 (hS L), c30 hP h'.2.2.1, ret1, s115_55 (hS L), c238 (hlt _), ret1, s115_58 (hS L)]
    exact k _ _ h' s'
  · have hM := Mst_deed (c := 10 * 3 + i) (m' := xw (xw (xcpy mi 77 0 78 (15 * D.length) 15) 68 10 (nI (D.length + 1))) 77 12 (nI (maskN (up (rep P D).2.2.1 i true) 6))) h (fun j hj => by
      rw [enc_3 (by omega), xw_eq, deed_77]
      by_cases e : j = 12
      · rw [if_pos e, if_pos e]
      · rw [if_neg e, if_neg e]
        exact h.2.2.1.2.2.2.1 j hj) (fun a j ha => xw_ne ha j)
    have hm := mg_m (mG_g h.2.2.1)
    rw [show (12 : Int32).toNatClampNeg = 12 from rfl] at hm
    rw [M1 L mi ml Q h, bI_f he, s196_21, if_pos rfl, h.2.2.1.2.1, if_neg (n40f hD h4), c189 h.2.2.1.2.1 (by omega), ret0, s196_43, show (12 : Int32).toNatClampNeg = 12 from rfl, deed_77, hm, or_n _ (by omega), s195, ret1, s196_60, show (12 : Int32).toNatClampNeg = 12 from rfl, xw_eq, if_pos rfl, hM.1.2.2.1.1, left_n _ hP, c151 (hlt _), ret1, s196_63]
    rw [rep_add, dstep_3 (by omega)] at k
    exact k _ _ hM.1 hM.2
