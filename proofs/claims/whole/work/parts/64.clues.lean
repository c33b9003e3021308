/-! seeds, kinds -/
section CLUES
variable {R T : pR} {L : Nat} {mi : Nat → Nat → Int32} {ml : Nat → Nat → Int64} {d : Nat} {Q : Option Value → xM → Prop} {kind seed r : Nat} {xs : List Int32}
def clR (mi : Nat → Nat → Int32) (xs : List Int32) : Prop := ∀ j, j < 6 → mi 63 j = nI (maskN (fitB xs j) 10)
theorem c8 (h : clR mi xs) (hk : kind < 6) : Xm 8 [.ref 62, .int (nI kind)] (SH L, mi, ml, MR) d Q = Q (some (.int (nI (maskN (fitB xs kind) 10)))) (SH L, mi, ml, MR) := by
  rw [s8 (fun _ _ => xin_nI hk (by omega)), if_neg (nI_nneg (by omega)), if_pos (show nI kind < 6 from nI_lt (b := 6) hk (by omega)), nI_clamp (by omega), h kind hk]
theorem c9 (h : clR mi xs) (hk : kind < 6) (hs : seed < 10) : Xm 9 [.ref 62, .int (nI kind), .int (nI seed)] (SH L, mi, ml, MR) (d + 1) Q = Q (some (.int (bI (fitB xs kind seed = true)))) (SH L, mi, ml, MR) := by
  rw [s9, c8 h hk, ret1, s9_5]
  by_cases hf : fitB xs kind seed = true
  · rw [if_pos ((mask_has10 hs).mpr hf), bI_t hf]
  · rw [if_neg (fun z => hf ((mask_has10 hs).mp z)), bI_f hf]
theorem c10 (h : clR mi xs) (hs : seed < 10) : Xm 10 [.ref 62, .int (nI seed)] (SH L, mi, ml, MR) (d + 2) Q = Q (some (.int (nI (maskN (fun k => fitB xs k seed) 6)))) (SH L, mi, ml, MR) := by
  rw [s10]
  have hl := X_loop (mid := 10) (pc := 4) (d := d + 2) (Q := Q) (fun k => [.ref 62, .int (nI seed), .int (nI (maskN (fun k => fitB xs k seed) k)), .int (nI k)]) (fun k => (SH L, mi, ml, MR)) 6 (fun k hk => by
    have e := mask_or (f := fun k => fitB xs k seed) hk
    rw [s10_4, if_pos (show nI k < 6 from nI_lt (b := 6) hk (by omega)), c9 h hk hs, ret1, s10_17, e.1, e.2, nI_1]
    show _ = X 10 4 [.ref 62, _, .int (nI (maskN (fun k => fitB xs k seed) k + (if fitB xs k seed = true then 2 ^ k else 0))), _] _ _ _ _
    by_cases hf : fitB xs k seed = true
    · rw [bI_t hf, if_neg i1_ne0, if_pos hf]
    · rw [bI_f hf, if_pos rfl, if_neg hf]
      rfl)
  refine hl.trans ?_
  rw [s10_4, if_neg (by decide)]
end CLUES
theorem strip_row {L r : Nat} (hr : r < 6) : isStrip L (3 + 2 + 2 * r) 40 := ((shRows L).2 r hr).2
section CLUEOPS
variable {R T : pR} {P : pP} {D : List Nat} {K : Nat → Option (List Nat)} {S : pS} {L : Nat} {mi : Nat → Nat → Int32} {ml : Nat → Nat → Int64} {xs : List Int32}
theorem Cst_cl (hP : P.length ≤ 6) (h : Cst R T P D K S mi ml) : Cst R T P D K S (clW mi xs 6) ml ∧ sameM mi (clW mi xs 6) ml ml :=
  Cst_scr hP h (fun a j ha => clW_ne (by omega)) (fun _ _ _ => rfl)
theorem clW_R : clR (clW mi xs 6) xs := fun j hj => clW_63 hj
end CLUEOPS
theorem op_seeds (x1 x2 : Int32) : OpI 126 217 [.int x1, .int x2] := op_of fun R T P D K S hok => by
  have hP := hok.1.1
  rcases num_cases x1 P.length (by omega) with hx | ⟨i, hi, rfl⟩
  · refine ex_ret (.int (-1)) ⟨_, rfl⟩ hok (fun L mi ml Q h k => ?_) (fun L mi ml Q h k => ?_)
    · rw [s126, c15_out h.2.2.1.1 hx, ret1, s126_8n]; exact k mi ml h sameM_rf
    · rw [s217, c172, ret1, h.2.2.1.1, bI_f (isP_out hP hx), s217_5, if_pos rfl]; exact k mi ml h sameC_rf
  have hS := fun L => (shPlant L (i := i) (by omega)).1
  rcases num_cases x2 6 (by omega) with hx | ⟨r, hr, rfl⟩
  · refine ex_ret (.int (-1)) ⟨_, rfl⟩ hok (fun L mi ml Q h k => ?_) (fun L mi ml Q h k => ?_)
    · rw [s126, c15_in hP h.2.2.1.1 hi, ret1, s126_8 (hS L), c82n (shRows L) (by omega) (by omega) hx, ret1, s126_24n (hS L), s147n, ret1, s126_27 (hS L), if_neg (by decide)]; exact k mi ml h sameM_rf
    · rw [s217, c172, ret1, h.2.2.1.1, bI_t (isP_in hi hP), s217_5, if_neg i1_ne0, c155, ret1, bI_f (in_bad (n := 5) (by omega) hx), s217_12, if_pos rfl]; exact k mi ml h sameC_rf
  have hpw := pw_lt (R r)
  have C1 : ∀ L mi ml Q, Cst R T P D K S mi ml → Xm 126 [.ref 2, .int (nI i), .int (nI r)] (SH L, mi, ml, MR) 99 Q = Xm 147 [.ref 2, .ref (3 + 2 + 2 * r)] (SH L, mi, ml, MR) 98 (fun v μ' => X 126 27 [.ref 2, .int (nI i), .int (nI r), .ref (42 + i), xmk] (v.toList ++ []) μ' 99 Q) := fun L mi ml Q h => by
    rw [s126, c15_in hP h.2.2.1.1 hi, ret1, s126_8 (hS L), c82 (shRows L) (by omega) hr, ret1, s126_24 (hS L) (strip_row hr)]
  have M1 : ∀ L mi ml Q, Mst R T P D K S mi ml → Xm 217 [.ref 68, .int (nI i), .int (nI r)] (SH L, mi, ml, MR) 99 Q = X 217 22 [.ref 68, .int (nI i), .int (nI r), xmk, xmk, xmk] [.int (nI (pw (R r)))] (SH L, mi, ml, MR) 99 Q := fun L mi ml Q h => by
    rw [s217, c172, ret1, h.2.2.1.1, bI_t (isP_in hi hP), s217_5, if_neg i1_ne0, c155, ret1, bI_t (in_ok (n := 5) (by omega) (by omega)), s217_12, if_neg i1_ne0, c215 (d := 96) hr h.1, ret1]
  by_cases hp : pw (R r) = 0
  · obtain ⟨xs, hR, hev, hg⟩ := pw_0 hp
    have hkd := (hok.1.2 i hi).1
    refine ex_ret (.int (nI (maskN (fitB xs (pl P i).1) 10))) ⟨_, rfl⟩ hok (fun L mi ml Q h k => ?_) (fun L mi ml Q h k => ?_)
    · obtain ⟨hst, hln⟩ := h.1 r hr
      rw [hR] at hst
      have hC := Cst_cl (xs := xs) hP h
      rw [C1 L mi ml Q h, c147_ok (d := 95) (strip_row hr) (by omega) hst (by omega) (hln xs hR) hev hg, ret1, s126_27 (hS L), if_pos rfl, (cG_pl hC.1.2.2.1 hi).1, c8 clW_R hkd, ret1, s126_50 (hS L)]
      exact k _ _ hC.1 hC.2
    · rw [M1 L mi ml Q h, hp, s217_22, if_pos (by decide)]
      have hl := X_loop (mid := 217) (pc := 39) (d := 99) (Q := Q) (fun s => [.ref 68, .int (nI i), .int (nI r), .int (nI 0), .int (nI (maskN (fitB xs (pl P i).1) s)), .int (nI s)]) (fun _ => (SH L, mi, ml, MR)) 10 (fun s hs => by
        rw [s217_39 (fun _ => xin_nI (by omega) (by omega)), if_pos (show nI s < 10 from nI_lt (b := 10) hs (by omega)), nI_clamp (by omega), (mG_pl h.2.2.1 hi).1, c216 (d := 97) hr h.1 hR hev hg hkd hs, ret1, s217_61, mask_or10 hs, i32_or0, nI_1]
        show _ = X 217 39 [.ref 68, _, _, _, .int (nI (maskN (fitB xs (pl P i).1) s + (if fitB xs (pl P i).1 s = true then 2 ^ s else 0))), _] _ _ _ _
        by_cases hf : fitB xs (pl P i).1 s = true
        · rw [bI_t hf, if_neg i1_ne0, if_pos hf]
        · rw [bI_f hf, if_pos rfl, if_neg hf]
          rfl)
      refine Eq.mpr hl ?_
      rw [s217_39 (fun z => absurd z (by decide)), if_neg (by decide)]
      exact k mi ml h sameC_rf
  · refine ex_S (.int (-3)) (sFound (pw (R r)) S) ⟨_, rfl⟩ hok (fun L mi ml Q h k => ?_) (fun L mi ml Q h k => ?_)
    · obtain ⟨hst, hln⟩ := h.1 r hr
      rw [C1 L mi ml Q h, c147 (d := 95) (strip_row hr) hst (by omega) hln hp, ret1, s126_27 (hS L), if_neg (by decide)]
      exact k _ _ (Cst_found hP h).1 (Cst_found hP h).2
    · rw [M1 L mi ml Q h, s217_22, if_neg (nI_ne0 (by omega) (by omega)), c152 hpw, ret1, s217_32]
      exact k _ _ (Mst_found h).1 (Mst_found h).2
theorem op_kinds (x1 x2 : Int32) : OpI 127 218 [.int x1, .int x2] := op_of fun R T P D K S hok => by
  have hP := hok.1.1
  rcases num_cases x1 P.length (by omega) with hx | ⟨i, hi, rfl⟩
  · refine ex_ret (.int (-1)) ⟨_, rfl⟩ hok (fun L mi ml Q h k => ?_) (fun L mi ml Q h k => ?_)
    · rw [s127, c15_out h.2.2.1.1 hx, ret1, s127_8n]; exact k mi ml h sameM_rf
    · rw [s218, c172, ret1, h.2.2.1.1, bI_f (isP_out hP hx), s218_5, if_pos rfl]; exact k mi ml h sameC_rf
  have hS := fun L => (shPlant L (i := i) (by omega)).1
  rcases num_cases x2 6 (by omega) with hx | ⟨r, hr, rfl⟩
  · refine ex_ret (.int (-1)) ⟨_, rfl⟩ hok (fun L mi ml Q h k => ?_) (fun L mi ml Q h k => ?_)
    · rw [s127, c15_in hP h.2.2.1.1 hi, ret1, s127_8 (hS L), c82n (shRows L) (by omega) (by omega) hx, ret1, s127_24n (hS L), s147n, ret1, s127_27 (hS L), if_neg (by decide)]; exact k mi ml h sameM_rf
    · rw [s218, c172, ret1, h.2.2.1.1, bI_t (isP_in hi hP), s218_5, if_neg i1_ne0, c155, ret1, bI_f (in_bad (n := 5) (by omega) hx), s218_12, if_pos rfl]; exact k mi ml h sameC_rf
  have hpw := pw_lt (R r)
  have C1 : ∀ L mi ml Q, Cst R T P D K S mi ml → Xm 127 [.ref 2, .int (nI i), .int (nI r)] (SH L, mi, ml, MR) 99 Q = Xm 147 [.ref 2, .ref (3 + 2 + 2 * r)] (SH L, mi, ml, MR) 98 (fun v μ' => X 127 27 [.ref 2, .int (nI i), .int (nI r), .ref (42 + i), xmk] (v.toList ++ []) μ' 99 Q) := fun L mi ml Q h => by
    rw [s127, c15_in hP h.2.2.1.1 hi, ret1, s127_8 (hS L), c82 (shRows L) (by omega) hr, ret1, s127_24 (hS L) (strip_row hr)]
  have M1 : ∀ L mi ml Q, Mst R T P D K S mi ml → Xm 218 [.ref 68, .int (nI i), .int (nI r)] (SH L, mi, ml, MR) 99 Q = X 218 22 [.ref 68, .int (nI i), .int (nI r), xmk, xmk, xmk] [.int (nI (pw (R r)))] (SH L, mi, ml, MR) 99 Q := fun L mi ml Q h => by
    rw [s218, c172, ret1, h.2.2.1.1, bI_t (isP_in hi hP), s218_5, if_neg i1_ne0, c155, ret1, bI_t (in_ok (n := 5) (by omega) (by omega)), s218_12, if_neg i1_ne0, c215 (d := 96) hr h.1, ret1]
  by_cases hp : pw (R r) = 0
  · obtain ⟨xs, hR, hev, hg⟩ := pw_0 hp
    have hsd := (hok.1.2 i hi).2.2.2.2
    refine ex_ret (.int (nI (maskN (fun k => fitB xs k (pl P i).2.2.2) 6))) ⟨_, rfl⟩ hok (fun L mi ml Q h k => ?_) (fun L mi ml Q h k => ?_)
    · obtain ⟨hst, hln⟩ := h.1 r hr
      rw [hR] at hst
      have hC := Cst_cl (xs := xs) hP h
      rw [C1 L mi ml Q h, c147_ok (d := 95) (strip_row hr) (by omega) hst (by omega) (hln xs hR) hev hg, ret1, s127_27 (hS L), if_pos rfl, (cG_pl hC.1.2.2.1 hi).2.2.2.1, c10 (d := 96) clW_R hsd, ret1, s127_50 (hS L)]
      exact k _ _ hC.1 hC.2
    · rw [M1 L mi ml Q h, hp, s218_22, if_pos (by decide)]
      have hl := X_loop (mid := 218) (pc := 39) (d := 99) (Q := Q) (fun s => [.ref 68, .int (nI i), .int (nI r), .int (nI 0), .int (nI (maskN (fun k => fitB xs k (pl P i).2.2.2) s)), .int (nI s)]) (fun _ => (SH L, mi, ml, MR)) 6 (fun s hs => by
        have e := mask_or (f := fun k => fitB xs k (pl P i).2.2.2) hs
        rw [s218_39 (fun _ => xin_nI (by omega) (by omega)), if_pos (show nI s < 6 from nI_lt (b := 6) hs (by omega)), nI_clamp (by omega), (mG_pl h.2.2.1 hi).2.2.2, c216 (d := 97) hr h.1 hR hev hg hs hsd, ret1, s218_61, e.1, e.2, nI_1]
        show _ = X 218 39 [.ref 68, _, _, _, .int (nI (maskN (fun k => fitB xs k (pl P i).2.2.2) s + (if fitB xs s (pl P i).2.2.2 = true then 2 ^ s else 0))), _] _ _ _ _
        by_cases hf : fitB xs s (pl P i).2.2.2 = true
        · rw [bI_t hf, if_neg i1_ne0, if_pos hf]
        · rw [bI_f hf, if_pos rfl, if_neg hf]
          rfl)
      refine Eq.mpr hl ?_
      rw [s218_39 (fun z => absurd z (by decide)), if_neg (by decide)]
      exact k mi ml h sameC_rf
  · refine ex_S (.int (-3)) (sFound (pw (R r)) S) ⟨_, rfl⟩ hok (fun L mi ml Q h k => ?_) (fun L mi ml Q h k => ?_)
    · obtain ⟨hst, hln⟩ := h.1 r hr
      rw [C1 L mi ml Q h, c147 (d := 95) (strip_row hr) hst (by omega) hln hp, ret1, s127_27 (hS L), if_neg (by decide)]
      exact k _ _ (Cst_found hP h).1 (Cst_found hP h).2
    · rw [M1 L mi ml Q h, s218_22, if_neg (nI_ne0 (by omega) (by omega)), c152 hpw, ret1, s218_32]
      exact k _ _ (Mst_found h).1 (Mst_found h).2
