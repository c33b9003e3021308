/-! day, water, pick -/
section ENC
variable {P : pP} {g : pG} {i k : Nat}
theorem enc_0 (hi : i < 10) : encN (dstep P g (10 * 0 + i)) k = if k = 13 then gD g + 1 else encN g k := by
  rw [dstep_0 hi]
  show (if k < 6 then gW g k else if k < 12 then gP g (k - 6) else if k = 12 then maskN g.2.2.1 6 else if k = 13 then gD g + 1 else gL g) = _
  unfold encN
  repeat' split
  all_goals first | rfl | omega
theorem enc_1 (hi : i < 6) : encN (dstep P g (10 * 1 + i)) k = if k = i then gW g i + 1 else encN g k := by
  rw [dstep_1 (by omega)]
  show (if k < 6 then (if k = i then gW g i + 1 else gW g k) else if k < 12 then gP g (k - 6) else if k = 12 then maskN g.2.2.1 6 else if k = 13 then gD g else gL g) = _
  unfold encN
  repeat' split
  all_goals first | rfl | omega
theorem enc_2 (hi : i < 6) : encN (dstep P g (10 * 2 + i)) k = if k = 6 + i then gP g i + 1 else if k < 14 then encN g k else wordP (pl P i) (gP g i) := by
  rw [dstep_2 (by omega)]
  show (if k < 6 then gW g k else if k < 12 then (if k - 6 = i then gP g i + 1 else gP g (k - 6)) else if k = 12 then maskN g.2.2.1 6 else if k = 13 then gD g else wordP (pl P i) (gP g i)) = _
  unfold encN
  repeat' split
  all_goals first | rfl | omega
theorem enc_3 (hi : i < 6) : encN (dstep P g (10 * 3 + i)) k = if k = 12 then maskN (up g.2.2.1 i true) 6 else encN g k := by
  rw [dstep_3 (by omega)]
  show (if k < 6 then gW g k else if k < 12 then gP g (k - 6) else if k = 12 then maskN (up g.2.2.1 i true) 6 else if k = 13 then gD g else gL g) = _
  unfold encN
  repeat' split
  all_goals first | rfl | omega
end ENC
section DAY
variable {R T : pR} {P : pP} {D : List Nat} {K : Nat → Option (List Nat)} {S : pS} {L : Nat} {mi m' : Nat → Nat → Int32} {ml : Nat → Nat → Int64} {d : Nat} {Q : Option Value → xM → Prop} {a i n c : Nat} {p : Nat × Nat × Nat × Nat} {w q day : Nat} {e : Bool}
theorem c22 (hst : stR mi 40 (some (D.map nI))) (hD : D.length ≤ 40) : Xm 22 [.ref 38, .int 1] (SH L, mi, ml, MR) (d + 1) Q = Q (some (.int (bI (D.length = 40)))) (SH L, mi, ml, MR) := by
  rw [s22, c88 (sh40 L) hst, ret1, s22_7, show szI (some (D.map nI)) = nI D.length from congrArg nI (List.length_map _), nI_1]
  by_cases h : D.length = 40
  · rw [h, if_pos (by decide), bI_t rfl]
  · rw [if_neg (show ¬ (40 : Int32) < nI (D.length + 1) from nI_nlt (a := 40) (by omega) (by omega)), bI_f h]
theorem Mst_deed (h : Mst R T P D K S mi ml) (h7 : ∀ k, k < 15 → m' 77 k = nI (encN (dstep P (rep P D) c) k)) (hc : ∀ a j, a ≠ 77 → m' a j = xw (xcpy mi 77 0 78 (15 * D.length) 15) 68 10 (nI (D.length + 1)) a j) : Mst R T P (D ++ [c]) K S m' ml ∧ sameC mi m' ml ml := by
  have hx : ∀ a j, a ≠ 78 → xcpy mi 77 0 78 (15 * D.length) 15 a j = mi a j := fun a j ha => by
    simp only [xcpy]
    rw [if_neg (fun z => ha z.1)]
  refine Mst_G h (mG_step h.2.2.1 ?_ ?_ (fun a j h1 h2 => ?_) h7 (fun j => ?_)) (fun j h1 h2 => ?_) (fun a j h1 h2 => ?_)
  · rw [hc _ _ (by omega), xw_eq, if_neg (by omega), hx _ _ (by omega)]
  · rw [hc _ _ (by omega), xw_eq, if_pos rfl]
  · rw [hc _ _ (by omega), xw_ne (by omega), hx _ _ (by omega)]
  · rw [hc _ _ (by omega), xw_ne (by omega)]
  · rw [hc _ _ (by omega), xw_eq, if_neg h2, hx _ _ (by omega)]
  · rw [hc _ _ (by omega), xw_ne h1, hx _ _ (by omega)]
theorem deed_77 (k : Nat) : xw (xcpy mi 77 0 78 (15 * n) 15) 68 10 (nI (n + 1)) 77 k = mi 77 k := by
  rw [xw_ne (by omega)]
  simp only [xcpy]
  rw [if_neg (by omega)]
theorem n40t (h : n = 40) : nI n = 40 := by rw [h]; rfl
theorem n40f (hn : n ≤ 40) (h : ¬ n = 40) : ¬ nI n = 40 := fun z => h (nI_inj (b := 40) (by omega) (by omega) z)
theorem c56 (hS : (SH L)[a]? = some (4, 7)) (h : plR mi a p w q e) (hw : w < 100) : Xm 56 [.ref a] (SH L, mi, ml, MR) d Q = Q (some (.int (bI (e = false ∧ w < 9)))) (SH L, mi, ml, MR) := by
  rw [s56 hS, h.2.2.2.2.2.2, h.2.2.2.2.1]
  cases e
  · rw [if_pos (by decide)]
    by_cases h9 : w < 9
    · rw [if_pos (show nI w < 9 from nI_lt (b := 9) h9 (by omega)), bI_t ⟨rfl, h9⟩]
    · rw [if_neg (show ¬ nI w < 9 from nI_nlt (b := 9) (by omega) (by omega)), bI_f (fun z => h9 z.2)]
  · rw [if_neg (by decide), bI_f (fun z => Bool.noConfusion z.1)]
theorem c191 {g : pG} (hi : i < 6) (hg : mgR mi g) (hw : gW g i < 100) : Xm 191 [.ref 68, .int (nI i)] (SH L, mi, ml, MR) (d + 1) Q = Q (some (.int (bI (gE g i = false ∧ gW g i < 9)))) (SH L, mi, ml, MR) := by
  rw [s191 (xin_w hi), mg_w hg hi, mg_m hg, c150 hi, ret1, s191_24]
  by_cases h9 : gW g i < 9
  · rw [if_pos (show nI (gW g i) < 9 from nI_lt (b := 9) h9 (by omega))]
    by_cases he : g.2.2.1 i = true
    · rw [bI_t he, if_neg i1_ne0, bI_f (fun z => by have z1 := z.1; unfold gE at z1; rw [he] at z1; exact Bool.noConfusion z1)]
    · rw [bI_f he, if_pos rfl, bI_t ⟨by unfold gE; exact Bool.eq_false_iff.mpr he, h9⟩]
  · rw [if_neg (show ¬ nI (gW g i) < 9 from nI_nlt (b := 9) (by omega) (by omega)), bI_f (fun z => h9 z.2)]
abbrev mayP (p : Nat × Nat × Nat × Nat) (w q : Nat) (e : Bool) (day : Nat) : Prop := e = false ∧ ¬ (p.1 = 3 ∧ day % 2 = 1) ∧ q < ripeP p w day
theorem c57 (hS : (SH L)[a]? = some (4, 7)) (h : plR mi a p w q e) (hp : okp p) (hd : day < 500) (hw : w < 100) (hq : q < 100) : Xm 57 [.ref a, .int (nI day)] (SH L, mi, ml, MR) (d + 3) Q = Q (some (.int (nI (if e = false ∧ ¬ (p.1 = 3 ∧ day % 2 = 1) then ripeP p w day - q else 0)))) (SH L, mi, ml, MR) := by
  rw [s57 hS, h.2.2.2.2.2.2]
  cases e
  · rw [if_pos (by decide), c55 hS h hp hd, ret1, s57_12 hS]
    by_cases h3 : p.1 = 3 ∧ day % 2 = 1
    · rw [bI_f (fun z => z h3), if_pos rfl, if_neg (fun z => z.2 h3)]
      rfl
    · have hr := ripeN_le p.1 (day + w - p.2.1) p.2.2.1
      rw [bI_t h3, if_neg i1_ne0, if_pos ⟨rfl, h3⟩, c54 hS h hp hd hw, ret1, s57_25 hS, h.2.2.2.2.2.1, nI_tsub (by show ripeN _ _ _ < _; omega) (by omega)]
  · rw [if_neg (by decide), if_neg (fun z => Bool.noConfusion z.1)]
    rfl
theorem c181 {g : pG} (hi : i < 6) (hg : mgR mi g) (h : mpR mi i p) (hp : okp p) (hd : day < 500) (hw : w < 100) (hq : q < 100) : Xm 181 [.ref 68, .int (nI i), .int (nI q), .int (nI w), .int (nI day)] (SH L, mi, ml, MR) (d + 2) Q = Q (some (.int (bI (mayP p w q (gE g i) day)))) (SH L, mi, ml, MR) := by
  have hr := ripeN_le p.1 (day + w - p.2.1) p.2.2.1
  have hr : ripeP p w day ≤ 9 := hr
  rw [s181, mg_m hg, c150 hi, ret1, s181_11]
  by_cases he : g.2.2.1 i = true
  · rw [bI_t he, if_neg i1_ne0, bI_f (fun z => by have z1 := z.1; unfold gE at z1; rw [he] at z1; exact Bool.noConfusion z1)]
  · have he2 : gE g i = false := by unfold gE; exact Bool.eq_false_iff.mpr he
    rw [bI_f he, if_pos rfl]
    by_cases h9 : q < 9
    · rw [if_pos (show nI q < 9 from nI_lt (b := 9) h9 (by omega)), c177 hi h hp hd hw, ret1, s181_28 (fun _ => xin_nI hi (by omega)), nI_clamp (by omega), h.1]
      by_cases hqr : q < ripeP p w day
      · rw [if_pos (nI_lt hqr (by omega)), show (nI day - nI day / 2 * 2) = nI (day % 2) from nI_rem (b := 2) (by omega) (by omega)]
        have h1 := hp.1
        by_cases h3 : p.1 = 3
        · rw [if_pos (show nI p.1 = 3 by rw [h3]; rfl)]
          rcases (by omega : day % 2 = 0 ∨ day % 2 = 1) with h2 | h2
          · rw [if_pos (show nI (day % 2) = 0 by rw [h2]; rfl), bI_t ⟨he2, by omega, hqr⟩]
          · rw [if_neg (show ¬ nI (day % 2) = 0 by rw [h2]; decide), bI_f (fun z => z.2.1 ⟨h3, h2⟩)]
        · rw [if_neg (show ¬ nI p.1 = 3 from fun z => h3 (nI_inj (b := 3) (by omega) (by omega) z)), bI_t ⟨he2, fun z => h3 z.1, hqr⟩]
      · rw [if_neg (nI_nlt (by omega) (by omega)), bI_f (fun z => hqr z.2.2)]
    · rw [if_neg (show ¬ nI q < 9 from nI_nlt (b := 9) (by omega) (by omega)), bI_f (fun z => by have := z.2.2; omega)]
theorem c183 {g : pG} (hi : i < 6) (hg : mgR mi g) (h : mpR mi i p) (hp : okp p) (hd : gD g < 500) (hw : gW g i < 100) (hq : gP g i < 100) : Xm 183 [.ref 68, .int (nI i)] (SH L, mi, ml, MR) (d + 4) Q = Q (some (.int (bI (mayP p (gW g i) (gP g i) (gE g i) (gD g))))) (SH L, mi, ml, MR) := by
  rw [s183 (xin_p hi), mg_p hg hi, s182 (xin_w hi), mg_w hg hi, mg_d hg, c181 hi hg h hp hd hw hq, ret1, s182_21 bI_or, ret1, s183_14 bI_or]
end DAY
theorem op_day : OpI 112 190 [] := op_of fun R T P D K S hok => by
  have hP := hok.1.1
  have hD := hok.2.1.1
  have hb := rep_le P D
  by_cases h0 : P.length = 0
  · refine ex_ret (.int (-4)) ⟨_, rfl⟩ hok (fun L mi ml Q h k => ?_) (fun L mi ml Q h k => ?_)
    · rw [s112, s17, h.2.2.1.1, h0, if_neg (by decide), ret1, s112_7, if_neg i1_ne0]; exact k mi ml h sameM_rf
    · rw [s190, h.2.2.1.1, h0, if_pos (by decide)]; exact k mi ml h sameC_rf
  have C1 : ∀ L mi ml Q, Cst R T P D K S mi ml → Xm 112 [.ref 2] (SH L, mi, ml, MR) 99 Q = X 112 21 [.ref 2] [.int (bI (D.length = 40))] (SH L, mi, ml, MR) 99 Q := fun L mi ml Q h => by
    rw [s112, s17, h.2.2.1.1, if_pos ((nI_pos_iff (by omega)).mpr (by omega)), ret1, s112_7, if_pos rfl, c22 h.2.2.1.2.2.2.1 hD, ret1]
  by_cases h4 : D.length = 40
  · refine ex_ret (.int (-2)) ⟨_, rfl⟩ hok (fun L mi ml Q h k => ?_) (fun L mi ml Q h k => ?_)
    · rw [C1 L mi ml Q h, bI_t h4, s112_21, if_neg i1_ne0]; exact k mi ml h sameM_rf
    · rw [s190, h.2.2.1.1, h.2.2.1.2.1, if_neg (nI_ne0 (by omega) (by omega)), if_pos (n40t h4)]; exact k mi ml h sameC_rf
  refine ⟨.int (nI (gD (rep P (D ++ [10 * 0 + 0])))), R, T, P, D ++ [10 * 0 + 0], K, S, ⟨_, rfl⟩, ⟨hok.1, okD_add hok.2.1 (by omega) ⟨by omega, by omega, by omega, by omega, by omega⟩, hok.2.2⟩, (fun L mi ml Q h k => ?_), (fun L mi ml Q h k => ?_)⟩
  · rw [C1 L mi ml Q h, bI_f h4, s112_21, if_pos rfl]
    refine c23 (what := 0) (i := 0) hok h (by omega) (by omega) (by omega) (fun mi' h' s' => ?_)
    rw [ret0, s112_36, s18, ret1, s112_43, h'.2.2.1.2.1]
    exact k _ _ h' s'
  · rw [s190, h.2.2.1.1, h.2.2.1.2.1, if_neg (nI_ne0 (by omega) (by omega)), if_neg (n40f hD h4), c189 h.2.2.1.2.1 (by omega), ret0, s190_26, show (13 : Int32).toNatClampNeg = 13 from rfl, deed_77, h.2.2.1.2.2.2.1 13 (by omega), show nI (encN (rep P D) 13) + 1 = nI (gD (rep P D) + 1) from nI_1 _, xw_eq, if_pos rfl]
    have hM := Mst_deed (c := 10 * 0 + 0) (m' := xw (xw (xcpy mi 77 0 78 (15 * D.length) 15) 68 10 (nI (D.length + 1))) 77 13 (nI (gD (rep P D) + 1))) h (fun j hj => by
      rw [enc_0 (by omega), xw_eq, deed_77]
      by_cases e : j = 13
      · rw [if_pos e, if_pos e]
      · rw [if_neg e, if_neg e]
        exact h.2.2.1.2.2.2.1 j hj) (fun a j ha => xw_ne ha j)
    rw [show gD (rep P (D ++ [10 * 0 + 0])) = gD (rep P D) + 1 by rw [rep_add, dstep_0 (by omega)]; rfl] at k
    exact k _ _ hM.1 hM.2
theorem op_water (x : Int32) : OpI 113 192 [.int x] := op_of fun R T P D K S hok => by
  have hP := hok.1.1
  have hD := hok.2.1.1
  have hb := rep_le P D
  rcases num_cases x P.length (by omega) with hx | ⟨i, hi, rfl⟩
  · refine ex_ret (.int (-1)) ⟨_, rfl⟩ hok (fun L mi ml Q h k => ?_) (fun L mi ml Q h k => ?_)
    · rw [s113, c15_out h.2.2.1.1 hx, ret1, s113_8n]; exact k mi ml h sameM_rf
    · rw [s192, c172, ret1, h.2.2.1.1, bI_f (isP_out hP hx), s192_5, if_pos rfl]; exact k mi ml h sameC_rf
  have hS := fun L => (shPlant L (i := i) (by omega)).1
  have hbi := hb.2 i
  have C1 : ∀ L mi ml Q, Cst R T P D K S mi ml → Xm 113 [.ref 2, .int (nI i)] (SH L, mi, ml, MR) 99 Q = X 113 19 [.ref 2, .int (nI i), .ref (42 + i)] [.int (bI (gE (rep P D) i = false ∧ gW (rep P D) i < 9))] (SH L, mi, ml, MR) 99 Q := fun L mi ml Q h => by
    rw [s113, c15_in hP h.2.2.1.1 hi, ret1, s113_8 (hS L), c56 (hS L) (cG_pl h.2.2.1 hi) (by omega), ret1]
  have M1 : ∀ L mi ml Q, Mst R T P D K S mi ml → Xm 192 [.ref 68, .int (nI i)] (SH L, mi, ml, MR) 99 Q = X 192 15 [.ref 68, .int (nI i)] [.int (bI (gE (rep P D) i = false ∧ gW (rep P D) i < 9))] (SH L, mi, ml, MR) 99 Q := fun L mi ml Q h => by
    rw [s192, c172, ret1, h.2.2.1.1, bI_t (isP_in hi hP), s192_5, if_neg i1_ne0, c191 (by omega) (mG_g h.2.2.1) (by omega), ret1]
  by_cases ha : gE (rep P D) i = false ∧ gW (rep P D) i < 9
  · have C2 : ∀ L mi ml Q, Cst R T P D K S mi ml → Xm 113 [.ref 2, .int (nI i)] (SH L, mi, ml, MR) 99 Q = X 113 33 [.ref 2, .int (nI i), .ref (42 + i)] [.int (bI (D.length = 40))] (SH L, mi, ml, MR) 99 Q := fun L mi ml Q h => by
      rw [C1 L mi ml Q h, bI_t ha, s113_19 (hS L), if_neg i1_ne0, c22 h.2.2.1.2.2.2.1 hD, ret1]
    by_cases h4 : D.length = 40
    · refine ex_ret (.int (-2)) ⟨_, rfl⟩ hok (fun L mi ml Q h k => ?_) (fun L mi ml Q h k => ?_)
      · rw [C2 L mi ml Q h, bI_t h4, s113_33 (hS L), if_neg i1_ne0]; exact k mi ml h sameM_rf
      · rw [M1 L mi ml Q h, bI_t ha, s192_15, if_neg i1_ne0, h.2.2.1.2.1, if_pos (n40t h4)]; exact k mi ml h sameC_rf
    have e10 : (10 * 1 + i) % 10 = i := by omega
    refine ⟨.int (nI (gW (rep P (D ++ [10 * 1 + i])) i)), R, T, P, D ++ [10 * 1 + i], K, S, ⟨_, rfl⟩, ⟨hok.1, okD_add hok.2.1 (by omega) ⟨by omega, by omega, fun _ => by rw [e10]; exact ⟨ha.2, ha.1⟩, by omega, by omega⟩, hok.2.2⟩, (fun L mi ml Q h k => ?_), (fun L mi ml Q h k => ?_)⟩
    · rw [C2 L mi ml Q h, bI_f h4, s113_33 (hS L), if_pos rfl]
      refine c23 (what := 1) hok h (by omega) hi (by omega) (fun mi' h' s' => ?_)
      rw [ret0, s113_48 (hS L), (cG_pl h'.2.2.1 hi).2.2.2.2.1]
      exact k _ _ h' s'
    · have e0 : (0 + nI i).toNatClampNeg = i := by rw [show (0 : Int32) = nI 0 from rfl, nI_add, Nat.zero_add, nI_clamp (by omega)]
      rw [M1 L mi ml Q h, bI_t ha, s192_15, if_neg i1_ne0, h.2.2.1.2.1, if_neg (n40f hD h4), c189 h.2.2.1.2.1 (by omega), ret0, s192_37 (xin_w (by omega)) (xin_w (by omega)) (xin_w (by omega)), e0, deed_77, xw_eq, if_pos rfl]
      have hw := mg_w (mG_g h.2.2.1) (i := i) (by omega)
      rw [e0] at hw
      rw [hw, nI_1]
      have hM := Mst_deed (c := 10 * 1 + i) (m' := xw (xw (xcpy mi 77 0 78 (15 * D.length) 15) 68 10 (nI (D.length + 1))) 77 i (nI (gW (rep P D) i + 1))) h (fun j hj => by
        rw [enc_1 (by omega), xw_eq, deed_77]
        by_cases e : j = i
        · rw [if_pos e, if_pos e]
        · rw [if_neg e, if_neg e]
          exact h.2.2.1.2.2.2.1 j hj) (fun a j ha => xw_ne ha j)
      rw [show gW (rep P (D ++ [10 * 1 + i])) i = gW (rep P D) i + 1 by
        rw [rep_add, dstep_1 (by omega)]
        show up _ _ _ _ = _
        unfold up
        rw [if_pos rfl]] at k
      exact k _ _ hM.1 hM.2
  · refine ex_ret (.int (-4)) ⟨_, rfl⟩ hok (fun L mi ml Q h k => ?_) (fun L mi ml Q h k => ?_)
    · rw [C1 L mi ml Q h, bI_f ha, s113_19 (hS L), if_pos rfl]; exact k mi ml h sameM_rf
    · rw [M1 L mi ml Q h, bI_f ha, s192_15, if_pos rfl]; exact k mi ml h sameC_rf
theorem openN_pos {p : Nat × Nat × Nat × Nat} {g : pG} {i : Nat} (h : mayP p (gW g i) (gP g i) (gE g i) (gD g)) : 0 < openN p g i := by
  unfold openN
  rw [if_neg (by
    rintro (z | z)
    · rw [h.1] at z; exact Bool.noConfusion z
    · exact h.2.1 z)]
  have := h.2.2
  omega
theorem op_pick (x : Int32) : OpI 114 194 [.int x] := op_of fun R T P D K S hok => by
  have hP := hok.1.1
  have hD := hok.2.1.1
  have hb := rep_le P D
  rcases num_cases x P.length (by omega) with hx | ⟨i, hi, rfl⟩
  · refine ex_ret (.int (-1)) ⟨_, rfl⟩ hok (fun L mi ml Q h k => ?_) (fun L mi ml Q h k => ?_)
    · rw [s114, c15_out h.2.2.1.1 hx, ret1, s114_8n]; exact k mi ml h sameM_rf
    · rw [s194, c172, ret1, h.2.2.1.1, bI_f (isP_out hP hx), s194_5, if_pos rfl]; exact k mi ml h sameC_rf
  have hS := fun L => (shPlant L (i := i) (by omega)).1
  have hbi := hb.2 i
  have hpi := hok.1.2 i hi
  have C1 : ∀ L mi ml Q, Cst R T P D K S mi ml → Xm 114 [.ref 2, .int (nI i)] (SH L, mi, ml, MR) 99 Q = X 114 26 [.ref 2, .int (nI i), .ref (42 + i)] [.int (nI (if gE (rep P D) i = false ∧ ¬ ((pl P i).1 = 3 ∧ gD (rep P D) % 2 = 1) then ripeP (pl P i) (gW (rep P D) i) (gD (rep P D)) - gP (rep P D) i else 0))] (SH L, mi, ml, MR) 99 Q := fun L mi ml Q h => by
    rw [s114, c15_in hP h.2.2.1.1 hi, ret1, s114_8 (hS L), s18, h.2.2.1.2.1, ret1, s114_23 (hS L), c57 (hS L) (cG_pl h.2.2.1 hi) hpi (by omega) (by omega) (by omega), ret1]
  have M1 : ∀ L mi ml Q, Mst R T P D K S mi ml → Xm 194 [.ref 68, .int (nI i)] (SH L, mi, ml, MR) 99 Q = X 194 15 [.ref 68, .int (nI i)] [.int (bI (mayP (pl P i) (gW (rep P D) i) (gP (rep P D) i) (gE (rep P D) i) (gD (rep P D))))] (SH L, mi, ml, MR) 99 Q := fun L mi ml Q h => by
    rw [s194, c172, ret1, h.2.2.1.1, bI_t (isP_in hi hP), s194_5, if_neg i1_ne0, c183 (by omega) (mG_g h.2.2.1) (mG_pl h.2.2.1 hi) hpi (by omega) (by omega) (by omega), ret1]
  have hr : ripeP (pl P i) (gW (rep P D) i) (gD (rep P D)) ≤ 9 := ripeN_le _ _ _
  by_cases ha : mayP (pl P i) (gW (rep P D) i) (gP (rep P D) i) (gE (rep P D) i) (gD (rep P D))
  · have C2 : ∀ L mi ml Q, Cst R T P D K S mi ml → Xm 114 [.ref 2, .int (nI i)] (SH L, mi, ml, MR) 99 Q = X 114 40 [.ref 2, .int (nI i), .ref (42 + i)] [.int (bI (D.length = 40))] (SH L, mi, ml, MR) 99 Q := fun L mi ml Q h => by
      have h3 := ha.2.2
      rw [C1 L mi ml Q h, if_pos ⟨ha.1, ha.2.1⟩, s114_26 (hS L), if_neg (nI_ne0 (by omega) (by omega)), c22 h.2.2.1.2.2.2.1 hD, ret1]
    by_cases h4 : D.length = 40
    · refine ex_ret (.int (-2)) ⟨_, rfl⟩ hok (fun L mi ml Q h k => ?_) (fun L mi ml Q h k => ?_)
      · rw [C2 L mi ml Q h, bI_t h4, s114_40 (hS L), if_neg i1_ne0]; exact k mi ml h sameM_rf
      · rw [M1 L mi ml Q h, bI_t ha, s194_15, if_neg i1_ne0, h.2.2.1.2.1, if_pos (n40t h4)]; exact k mi ml h sameC_rf
    have e10 : (10 * 2 + i) % 10 = i := by omega
    refine ⟨.int (nI (gL (rep P (D ++ [10 * 2 + i])))), R, T, P, D ++ [10 * 2 + i], K, S, ⟨_, rfl⟩, ⟨hok.1, okD_add hok.2.1 (by omega) ⟨by omega, by omega, by omega, fun _ => by rw [e10]; exact openN_pos ha, by omega⟩, hok.2.2⟩, (fun L mi ml Q h k => ?_), (fun L mi ml Q h k => ?_)⟩
    · rw [C2 L mi ml Q h, bI_f h4, s114_40 (hS L), if_pos rfl]
      refine c23 (what := 2) hok h (by omega) hi (by omega) (fun mi' h' s' => ?_)
      rw [ret0, s114_55 (hS L), s19, ret1, s114_62 (hS L), h'.2.2.1.2.2.1]
      exact k _ _ h' s'
    · have e0 : (6 + nI i).toNatClampNeg = 6 + i := by rw [show (6 : Int32) = nI 6 from rfl, nI_add, nI_clamp (by omega)]
      have hw := mg_p (mG_g h.2.2.1) (i := i) (by omega)
      rw [e0] at hw
      have hpl : mpR (xw (xcpy mi 77 0 78 (15 * D.length) 15) 68 10 (nI (D.length + 1))) i (pl P i) := by
        have hx : ∀ a j, a ≠ 78 → a ≠ 68 → xw (xcpy mi 77 0 78 (15 * D.length) 15) 68 10 (nI (D.length + 1)) a j = mi a j := fun a j h1 h2 => by
          rw [xw_ne h2]
          simp only [xcpy]
          rw [if_neg (fun z => h1 z.1)]
        unfold mpR
        rw [hx _ _ (by omega) (by omega), hx _ _ (by omega) (by omega), hx _ _ (by omega) (by omega), hx _ _ (by omega) (by omega)]
        exact mG_pl h.2.2.1 hi
      rw [M1 L mi ml Q h, bI_t ha, s194_15, if_neg i1_ne0, h.2.2.1.2.1, if_neg (n40f hD h4), s193, c189 h.2.2.1.2.1 (by omega), ret0, s193_4 (xin_p (by omega)), e0, deed_77, hw, c180 (by omega) hpl hpi (by omega), ret1, s193_24 (by decide) (xin_p (by omega)) (xin_p (by omega)), ret0, s194_38, show (14 : Int32).toNatClampNeg = 14 from rfl, e0, xw_eq, if_neg (by omega), xw_eq, if_pos rfl]
      have e7 : xw (xw (xcpy mi 77 0 78 (15 * D.length) 15) 68 10 (nI (D.length + 1))) 77 14 (nI (wordP (pl P i) (gP (rep P D) i))) 77 (6 + i) + 1 = nI (gP (rep P D) i + 1) := by rw [xw_eq, if_neg (by omega), deed_77, hw, nI_1]
      rw [e7]
      have hM := Mst_deed (c := 10 * 2 + i) (m' := xw (xw (xw (xcpy mi 77 0 78 (15 * D.length) 15) 68 10 (nI (D.length + 1))) 77 14 (nI (wordP (pl P i) (gP (rep P D) i)))) 77 (6 + i) (nI (gP (rep P D) i + 1))) h (fun j hj => by
        rw [enc_2 (by omega), xw_eq, xw_eq, deed_77]
        by_cases e : j = 6 + i
        · rw [if_pos e, if_pos e]
        · rw [if_neg e, if_neg e]
          by_cases e2 : j = 14
          · rw [if_pos e2, if_neg (by omega)]
          · rw [if_neg e2, if_pos (by omega)]
            exact h.2.2.1.2.2.2.1 j hj) (fun a j ha => by rw [xw_ne ha, xw_ne ha])
      rw [show gL (rep P (D ++ [10 * 2 + i])) = wordP (pl P i) (gP (rep P D) i) by rw [rep_add, dstep_2 (by omega)]; rfl] at k
      exact k _ _ hM.1 hM.2
  · refine ex_ret (.int (-4)) ⟨_, rfl⟩ hok (fun L mi ml Q h k => ?_) (fun L mi ml Q h k => ?_)
    · have e : (if gE (rep P D) i = false ∧ ¬ ((pl P i).1 = 3 ∧ gD (rep P D) % 2 = 1) then ripeP (pl P i) (gW (rep P D) i) (gD (rep P D)) - gP (rep P D) i else 0) = 0 := by
        split
        · rename_i z
          have : ¬ gP (rep P D) i < ripeP (pl P i) (gW (rep P D) i) (gD (rep P D)) := fun z2 => ha ⟨z.1, z.2, z2⟩
          omega
        · rfl
      rw [C1 L mi ml Q h, e, s114_26 (hS L), if_pos (by decide)]; exact k mi ml h sameM_rf
    · rw [M1 L mi ml Q h, bI_f ha, s194_15, if_pos rfl]; exact k mi ml h sameC_rf
