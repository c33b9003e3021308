theorem op_sooner (x1 x2 x3 : Int32) : OpI 121 205 [.int x1, .int x2, .int x3] := op_of fun R T P D K S hok => by
  have hP := hok.1.1
  have hD := hok.2.1.1
  have hb := rep_le P D
  rcases num_cases x1 P.length (by omega) with hx | ⟨i, hi, rfl⟩
  · refine ex_ret (.int (-1)) ⟨_, rfl⟩ hok (fun L mi ml Q h k => ?_) (fun L mi ml Q h k => ?_)
    · rw [s121, c15_out h.2.2.1.1 hx, ret1, s121_8n]; exact k mi ml h sameM_rf
    · rw [s205, c172, ret1, h.2.2.1.1, bI_f (isP_out hP hx), s205_5, if_pos rfl]; exact k mi ml h sameC_rf
  have hS := fun L => (shPlant L (i := i) (by omega)).1
  have hbi := hb.2 i
  rcases num_cases x2 9 (by omega) with hx | ⟨f, hf, rfl⟩
  · refine ex_ret (.int (-1)) ⟨_, rfl⟩ hok (fun L mi ml Q h k => ?_) (fun L mi ml Q h k => ?_)
    · rw [s121, c15_in hP h.2.2.1.1 hi, ret1, s121_8 (hS L), c142_out hx, ret1, s121_19 (hS L), if_pos rfl]; exact k mi ml h sameM_rf
    · rw [s205, c172, ret1, h.2.2.1.1, bI_t (isP_in hi hP), s205_5, if_neg i1_ne0, c173, ret1, bI_f (in_bad (n := 8) (by omega) hx), s205_12, if_pos rfl]; exact k mi ml h sameC_rf
  rcases num_cases x3 41 (by omega) with hx | ⟨m, hm, rfl⟩
  · refine ex_ret (.int (-1)) ⟨_, rfl⟩ hok (fun L mi ml Q h k => ?_) (fun L mi ml Q h k => ?_)
    · rw [s121, c15_in hP h.2.2.1.1 hi, ret1, s121_8 (hS L), c142_in hf, ret1, s121_19 (hS L), if_neg i1_ne0]
      by_cases h0 : x3 < 0
      · rw [if_pos h0]; exact k mi ml h sameM_rf
      · rw [if_neg h0, if_pos (show (40 : Int32) < x3 from Decidable.not_not.mp (fun z => in_bad (n := 40) (by omega) hx ⟨h0, z⟩))]; exact k mi ml h sameM_rf
    · rw [s205, c172, ret1, h.2.2.1.1, bI_t (isP_in hi hP), s205_5, if_neg i1_ne0, c173, ret1, bI_t (in_ok (n := 8) (by omega) (by omega)), s205_12, if_neg i1_ne0, show (0 : Int64) = (0 : Int32).toInt64 from rfl, show (40 : Int64) = (nI 40).toInt64 from rfl, c149, ret1, bI_f (in_bad (n := 40) (by omega) hx), s205_24, if_pos rfl]; exact k mi ml h sameC_rf
  refine ex_ret (.int (soonN (pl P i) (gW (rep P D) i) f (gE (rep P D) i) (gD (rep P D)) m (10 - gW (rep P D) i) (gW (rep P D) i))) ⟨_, rfl⟩ hok (fun L mi ml Q h k => ?_) (fun L mi ml Q h k => ?_)
  · have hpl := cG_pl h.2.2.1 hi
    rw [s121, c15_in hP h.2.2.1.1 hi, ret1, s121_8 (hS L), c142_in hf, ret1, s121_19 (hS L), if_neg i1_ne0, if_neg (nI_nneg (by omega)), if_neg (show ¬ (40 : Int32) < nI m from nI_nlt (a := 40) (by omega) (by omega)), hpl.2.2.2.2.1]
    refine Eq.mpr (c121_loop (d := 95) (hS L) hpl (hok.1.2 i hi) h.2.2.1.2.1 (by omega) (by omega) (by omega) hf _ _ rfl (Nat.le_refl _) (by omega)) ?_
    exact k mi ml h sameM_rf
  · have hg := mG_g h.2.2.1
    rw [s205, c172, ret1, h.2.2.1.1, bI_t (isP_in hi hP), s205_5, if_neg i1_ne0, c173, ret1, bI_t (in_ok (n := 8) (by omega) (by omega)), s205_12, if_neg i1_ne0, show (0 : Int64) = (0 : Int32).toInt64 from rfl, show (40 : Int64) = (nI 40).toInt64 from rfl, c149, ret1, bI_t (in_ok (n := 40) (by omega) (by omega)), s205_24, if_neg i1_ne0]
    have hl := c205_loop (d := 95) (L := L) (ml := ml) (Q := Q) (i := i) (lim := m) (pod := f) (by omega) hg (mG_pl h.2.2.1 hi) (hok.1.2 i hi) (by omega) (by omega) (by omega) hf _ _ rfl (Nat.le_refl _) (by omega)
    rw [Nat.sub_self] at hl
    refine Eq.mpr hl ?_
    exact k mi ml h sameC_rf
