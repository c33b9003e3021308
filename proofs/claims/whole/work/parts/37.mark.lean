/-! mark -/
theorem rg16 {x : Int32} : ((0 : Int32) < x ∧ x < 6) ↔ (¬ x < nI 1 ∧ ¬ nI 5 < x) := by
  simp only [Int32.lt_iff_toInt_lt]
  have h0 : (0 : Int32).toInt = 0 := rfl
  have h6 : (6 : Int32).toInt = 6 := rfl
  have h1 : (nI 1).toInt = 1 := rfl
  have h5 : (nI 5).toInt = 5 := rfl
  omega
theorem c149_n {L : Nat} {mi : Nat → Nat → Int32} {ml : Nat → Nat → Int64} {d : Nat} {Q : Option Value → xM → Prop} {x : Int32} {a b : Nat} {A B : Int64} (hA : A = (nI a).toInt64) (hB : B = (nI b).toInt64) : Xm 149 [.long x.toInt64, .long A, .long B] (SH L, mi, ml, MR) d Q = Q (some (.int (bI (¬ x < nI a ∧ ¬ nI b < x)))) (SH L, mi, ml, MR) := by
  subst hA
  subst hB
  exact c149
theorem op_mark (x1 x2 : Int32) : OpI 110 186 [.int x1, .int x2] := op_of fun R T P D K S hok => by
  have hP := hok.1.1
  have hD := hok.2.1.1
  rcases num_cases x1 P.length (by omega) with hx | ⟨i, hi, rfl⟩
  · refine ex_ret (.int (-1)) ⟨_, rfl⟩ hok (fun L mi ml Q h k => ?_) (fun L mi ml Q h k => ?_)
    · rw [s110, c15_out h.2.2.1.1 hx, ret1, s110_8n]; exact k mi ml h sameM_rf
    · rw [s186, c172, ret1, h.2.2.1.1, bI_f (isP_out hP hx), s186_5, if_pos rfl]; exact k mi ml h sameC_rf
  have hS := fun L => (shPlant L (i := i) (by omega)).1
  by_cases hx : ¬ ((0 : Int32) < x2 ∧ x2 < 6)
  · refine ex_ret (.int (-1)) ⟨_, rfl⟩ hok (fun L mi ml Q h k => ?_) (fun L mi ml Q h k => ?_)
    · rw [s110, c15_in hP h.2.2.1.1 hi, ret1, s110_8 (hS L)]
      by_cases h0 : (0 : Int32) < x2
      · rw [if_pos h0, if_neg (fun z => hx ⟨h0, z⟩)]; exact k mi ml h sameM_rf
      · rw [if_neg h0]; exact k mi ml h sameM_rf
    · rw [s186, c172, ret1, h.2.2.1.1, bI_t (isP_in hi hP), s186_5, if_neg i1_ne0, c149_n (a := 1) (b := 5) (A := 1) (B := 5) rfl rfl, ret1, bI_f (fun z => hx (rg16.mpr z)), s186_17 (fun z => absurd rfl z), if_pos rfl]; exact k mi ml h sameC_rf
  have hx := Decidable.not_not.mp hx
  obtain ⟨f, hf, rfl⟩ : ∃ f, f < 6 ∧ x2 = nI f := by
    rcases num_cases x2 6 (by omega) with z | z
    · exact absurd hx.2 (z.resolve_left (fun z2 => by
        have h1 := hx.1
        rw [Int32.lt_iff_toInt_lt] at h1 z2
        omega))
    · exact z
  have hf0 : 0 < f := (nI_pos_iff (by omega)).mp hx.1
  have hkd := (hok.1.2 i hi).1
  have C1 : ∀ L mi ml Q, Cst R T P D K S mi ml → Xm 110 [.ref 2, .int (nI i), .int (nI f)] (SH L, mi, ml, MR) 99 Q = X 110 33 [.ref 2, .int (nI i), .int (nI f), .ref (42 + i)] [.int (bI (ofN (pl P i).1 f))] (SH L, mi, ml, MR) 99 Q := fun L mi ml Q h => by
    rw [s110, c15_in hP h.2.2.1.1 hi, ret1, s110_8 (hS L), if_pos hx.1, if_pos hx.2, (cG_pl h.2.2.1 hi).1, c45 hkd hf0 hf, ret1]
  have M1 : ∀ L mi ml Q, Mst R T P D K S mi ml → Xm 186 [.ref 68, .int (nI i), .int (nI f)] (SH L, mi, ml, MR) 99 Q = X 186 32 [.ref 68, .int (nI i), .int (nI f), xmk, xmk] [.int (bI (ofN (pl P i).1 f))] (SH L, mi, ml, MR) 99 Q := fun L mi ml Q h => by
    rw [s186, c172, ret1, h.2.2.1.1, bI_t (isP_in hi hP), s186_5, if_neg i1_ne0, c149_n (a := 1) (b := 5) (A := 1) (B := 5) rfl rfl, ret1, bI_t (rg16.mp hx), s186_17 (fun _ => xin_nI (by omega) (by omega)), if_neg i1_ne0, nI_clamp (by omega), (mG_pl h.2.2.1 hi).1, c175 hkd hf0 hf, ret1]
  by_cases ho : ¬ ofN (pl P i).1 f
  · refine ex_S (.int (-3)) (sFound 3 S) ⟨_, rfl⟩ hok (fun L mi ml Q h k => ?_) (fun L mi ml Q h k => ?_)
    · rw [C1 L mi ml Q h, bI_f ho, s110_33 (hS L), if_pos rfl, c141_3, ret1, s110_41 (hS L)]
      exact k _ _ (Cst_found hok.1.1 h).1 (Cst_found hok.1.1 h).2
    · rw [M1 L mi ml Q h, bI_f ho, s186_32 (fun z => absurd rfl z), if_pos rfl, c152_3, ret1, s186_40]
      exact k _ _ (Mst_found h).1 (Mst_found h).2
  have ho := Decidable.not_not.mp ho
  have hb := rep_le P D
  have hb2 := hb.2 i
  obtain ⟨k1, k2, k3, k4, k5⟩ := hok.1.2 i hi
  refine ex_ret (.int (markN (pl P i) (gW (rep P D) i) (gP (rep P D) i) (gD (rep P D)) f)) ⟨_, rfl⟩ hok (fun L mi ml Q h k => ?_) (fun L mi ml Q h k => ?_)
  · rw [C1 L mi ml Q h, bI_t ho, s110_33 (hS L), if_neg i1_ne0, s18, h.2.2.1.2.1, ret1, s110_51 (hS L), c61 hf0 hf ho (hS L) (cG_pl h.2.2.1 hi) (hok.1.2 i hi) (by omega) (by omega) (by omega), ret1, s110_54 (hS L)]
    exact k mi ml h sameM_rf
  · have hg := mG_g h.2.2.1
    have hm := mG_pl h.2.2.1 hi
    have hq := Nat.div_le_self (gD (rep P D) + gW (rep P D) i - (pl P i).2.1) (pl P i).2.2.1
    have hkk := k mi ml h sameC_rf
    rw [M1 L mi ml Q h, bI_t ho, s186_32 (fun _ => xin_w (by omega)), if_neg i1_ne0, mg_w hg (by omega), mg_d hg, c176 (by omega) hm (hok.1.2 i hi) (by omega) (by omega), ret1, s186_61 (xin_nI (by omega) (by omega)) (by rw [nI_clamp (by omega), hm.2.2.1]; exact nI_ne0 (by omega) (by omega)), nI_clamp (by omega), hm.2.2.1, nI_div (by omega) (by omega), c174 (by omega), ret1, s186_71 (xin_p (by omega)), mg_p hg (by omega), mg_d hg]
    rcases (by omega : f = 1 ∨ f = 2 ∨ f = 3 ∨ f = 4 ∨ f = 5) with rfl | rfl | rfl | rfl | rfl
    · rw [if_pos (by decide), c178 (by omega) hg hm (hok.1.2 i hi) (by omega) (by omega), ret1, s186_121]
      exact hkk
    · rw [if_neg (by decide), if_pos (by decide), c178 (by omega) hg hm (hok.1.2 i hi) (by omega) (by omega), ret1, s186_130]
      exact hkk
    · rw [if_neg (by decide), if_neg (by decide), if_pos (by decide), show (nI (gD (rep P D)) - nI (gD (rep P D)) / 2 * 2) = nI (gD (rep P D) % 2) from nI_rem (b := 2) (by omega) (by omega)]
      exact hkk
    · rw [if_neg (by decide), if_neg (by decide), if_neg (by decide), if_pos (by decide)]
      refine Eq.mpr (c180 (pod := 0) (by omega) hm (hok.1.2 i hi) (by omega)) ?_
      rw [ret1, s186_148 (xin_nI (by omega) (by omega)), nI_clamp (by omega), hm.2.2.2]
      refine Eq.mpr (c179 (k := 1) (p := 0) (by omega) (by omega) (by omega)) ?_
      rw [ret1, s186_159]
      exact hkk
    · have hkk : Q (some (.int (againN (pl P i) (gP (rep P D) i)))) (SH L, mi, ml, MR) := hkk
      unfold againN at hkk
      rw [if_neg (by decide), if_neg (by decide), if_neg (by decide), if_neg (by decide), c149_n (a := 1) (b := 8) (A := 1) (B := 8) rfl rfl, ret1]
      by_cases hq9 : 0 < gP (rep P D) i ∧ gP (rep P D) i < 9
      · rw [bI_t ⟨nI_nlt (by omega) (by omega), nI_nlt (by omega) (by omega)⟩, s186_174, if_neg i1_ne0, c180 (by omega) hm (hok.1.2 i hi) (by omega), ret1, s186_184, show nI (gP (rep P D) i) - 1 = nI (gP (rep P D) i - 1) from nI_sub (b := 1) (by omega), c180 (by omega) hm (hok.1.2 i hi) (by omega), ret1, s186_193]
        have w1 := wordP_lt (pl P i) (gP (rep P D) i)
        have w2 := wordP_lt (pl P i) (gP (rep P D) i - 1)
        by_cases z3 : wordP (pl P i) (gP (rep P D) i) = wordP (pl P i) (gP (rep P D) i - 1)
        · rw [bI_t ⟨hq9.1, hq9.2, z3⟩] at hkk
          rw [z3, if_pos rfl]
          exact hkk
        · rw [bI_f (fun z => z3 z.2.2)] at hkk
          rw [if_neg (fun z => z3 (nI_inj (by omega) (by omega) z))]
          exact hkk
      · rw [bI_f (fun z => hq9 ⟨z.1, z.2.1⟩)] at hkk
        rw [bI_f (fun z => hq9 (by
          have z1 := z.1
          have z2 := z.2
          rw [Int32.lt_iff_toInt_lt, nI_toInt (by omega), nI_toInt (by omega)] at z1 z2
          omega)), s186_174, if_pos rfl]
        exact hkk
