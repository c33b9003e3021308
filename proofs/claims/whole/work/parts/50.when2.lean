/-! when -/
theorem op_when (x1 x2 : Int32) : OpI 120 204 [.int x1, .int x2] := op_of fun R T P D K S hok => by
  have hP := hok.1.1
  have hD := hok.2.1.1
  have hb := rep_le P D
  rcases num_cases x1 P.length (by omega) with hx | ⟨i, hi, rfl⟩
  · refine ex_ret (.int (-1)) ⟨_, rfl⟩ hok (fun L mi ml Q h k => ?_) (fun L mi ml Q h k => ?_)
    · rw [s120, c15_out h.2.2.1.1 hx, ret1, s120_8n]; exact k mi ml h sameM_rf
    · rw [s204, c172, ret1, h.2.2.1.1, bI_f (isP_out hP hx), s204_5, if_pos rfl]; exact k mi ml h sameC_rf
  have hS := fun L => (shPlant L (i := i) (by omega)).1
  have hbi := hb.2 i
  rcases num_cases x2 9 (by omega) with hx | ⟨f, hf, rfl⟩
  · refine ex_ret (.int (-1)) ⟨_, rfl⟩ hok (fun L mi ml Q h k => ?_) (fun L mi ml Q h k => ?_)
    · rw [s120, c15_in hP h.2.2.1.1 hi, ret1, s120_8 (hS L), c142_out hx, ret1, s120_17 (hS L), if_pos rfl]; exact k mi ml h sameM_rf
    · rw [s204, c172, ret1, h.2.2.1.1, bI_t (isP_in hi hP), s204_5, if_neg i1_ne0, c173, ret1, bI_f (in_bad (n := 8) (by omega) hx), s204_12 (fun z => absurd rfl z), if_pos rfl]; exact k mi ml h sameC_rf
  refine ex_ret (.int (dayI (dayN (pl P i) (gW (rep P D) i) f (gE (rep P D) i) (gD (rep P D)) 100 0))) ⟨_, rfl⟩ hok (fun L mi ml Q h k => ?_) (fun L mi ml Q h k => ?_)
  · have hpl := cG_pl h.2.2.1 hi
    rw [s120, c15_in hP h.2.2.1.1 hi, ret1, s120_8 (hS L), c142_in hf, ret1, s120_17 (hS L), if_neg i1_ne0, s18, h.2.2.1.2.1, hpl.2.2.2.2.1, ret1, s120_35 (hS L)]
    refine Eq.mpr (c59 (lim := 99) (hS L) hpl (hok.1.2 i hi) (by omega) (by omega) (by omega) hf) ?_
    rw [ret1, s120_40 (hS L)]
    exact k mi ml h sameM_rf
  · have hg := mG_g h.2.2.1
    rw [s204, c172, ret1, h.2.2.1.1, bI_t (isP_in hi hP), s204_5, if_neg i1_ne0, c173, ret1, bI_t (in_ok (n := 8) (by omega) (by omega)), s204_12 (fun _ => xin_w (by omega)), if_neg i1_ne0, mg_w hg (by omega), s203]
    refine Eq.mpr (c203_loop (lim := 99) (by omega) hg (mG_pl h.2.2.1 hi) (hok.1.2 i hi) (by omega) (by omega) (by omega) hf 100 0 (by omega)) ?_
    rw [ret1, s204_34]
    have hkk := k mi ml h sameC_rf
    cases hx : dayN (pl P i) (gW (rep P D) i) f (gE (rep P D) i) (gD (rep P D)) 100 0 with
    | none =>
      rw [hx] at hkk
      rw [if_pos (show dayM none = 1000000 from rfl)]
      exact hkk
    | some s =>
      have hs := dayN_le _ _ _ hx
      rw [hx] at hkk
      rw [if_neg (show ¬ dayM (some s) = 1000000 from fun z => by have := nI_inj (b := 1000000) (by omega) (by omega) z; omega)]
      exact hkk
