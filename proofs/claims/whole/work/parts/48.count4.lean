/-! count -/
theorem kept_le {P : pP} {K : Nat → Option (List Nat)} (h : okK P K) {k : Nat} (hk : k < 3) {xs : List Int32} (hx : (K k).map (fun D => D.map nI) = some xs) : xs.length ≤ 40 := by
  cases hK : K k with
  | none => rw [hK] at hx; cases hx
  | some E =>
    rw [hK] at hx
    cases hx
    rw [List.length_map]
    exact (h k hk E hK).1
theorem kept_n (K : Nat → Option (List Nat)) : ∀ n, sN (isN fun k => (K k).map (fun D => D.map nI)) n = sN (isN K) n := by
  intro n
  induction n with
  | zero => rfl
  | succ n ih =>
    show sN _ n + isN _ n = sN _ n + isN _ n
    rw [ih]
    unfold isN
    rw [Option.isSome_map]
theorem op_count (x : Int32) : OpI 137 234 [.int x] := op_of fun R T P D K S hok => by
  have hP := hok.1.1
  have hD := hok.2.1.1
  have hb := rep_le P D
  rcases num_cases x 11 (by omega) with hx | ⟨f, hf, rfl⟩
  · refine ex_ret (.int (-1)) ⟨_, rfl⟩ hok (fun L mi ml Q h q => ?_) (fun L mi ml Q h q => ?_)
    · have hne : ∀ k, k < 11 → ¬ x = nI k := fun k hk z => by
        rw [z] at hx
        exact hx.elim (fun z => nI_nneg (by omega) z) (fun z => z (nI_lt hk (by omega)))
      rw [s137, if_neg (show ¬ x = 0 from hne 0 (by omega)), if_neg (show ¬ x = 1 from hne 1 (by omega)), if_neg (show ¬ x = 2 from hne 2 (by omega)), if_neg (show ¬ x = 3 from hne 3 (by omega)), if_neg (show ¬ x = 4 from hne 4 (by omega)), if_neg (show ¬ x = 5 from hne 5 (by omega)), if_neg (show ¬ x = 6 from hne 6 (by omega)), if_neg (show ¬ x = 7 from hne 7 (by omega)), if_neg (show ¬ x = 8 from hne 8 (by omega)), if_neg (show ¬ x = 9 from hne 9 (by omega)), if_neg (show ¬ x = 10 from hne 10 (by omega))]
      exact q mi ml h sameM_rf
    · rw [s234, show (0 : Int64) = (0 : Int32).toInt64 from rfl, show (10 : Int64) = (nI 10).toInt64 from rfl, c149, ret1, bI_f (in_bad (n := 10) (by omega) hx), s234_9, if_pos rfl]; exact q mi ml h sameC_rf
  have M1 : ∀ L mi ml Q, Mst R T P D K S mi ml → Xm 234 [.ref 68, .int (nI f)] (SH L, mi, ml, MR) 99 Q = X 233 120 [.ref 68, .int (nI f), .int (nI ((if f = 7 then sN (fun i => if ofN (pl P i).1 1 then 1 else 0) P.length else 0) + (if f = 8 then sN (isN R) 6 else 0) + (if f = 9 then sN (isN T) 4 else 0))), .int (nI 0)] [] (SH L, mi, ml, MR) 98 (fun v μ' => X 234 17 [.ref 68, .int (nI f)] (v.toList ++ []) μ' 99 Q) := fun L mi ml Q h => by
    rw [s234, show (0 : Int64) = (0 : Int32).toInt64 from rfl, show (10 : Int64) = (nI 10).toInt64 from rfl, c149, ret1, bI_t (in_ok (n := 10) (by omega) (by omega)), s234_9, if_neg i1_ne0, s233]
    exact (p4 (d := 97) hf hok.1 h.2.2.1.1 (fun i hi => mG_pl h.2.2.1 hi)).trans ((p47 hf h.1).trans (p84 hf h.2.1))
  have sw : sN (gW (rep P D)) P.length = sN (gW (rep P D)) 6 := by
    have := sN_ext (f := gW (rep P D)) (n := P.length) (6 - P.length) (fun j hj => (rep_out' hok.2.1 hj).1)
    rw [show P.length + (6 - P.length) = 6 by omega] at this
    exact this.symm
  have sp : sN (gP (rep P D)) P.length = sN (gP (rep P D)) 6 := by
    have := sN_ext (f := gP (rep P D)) (n := P.length) (6 - P.length) (fun j hj => (rep_out' hok.2.1 hj).2)
    rw [show P.length + (6 - P.length) = 6 by omega] at this
    exact this.symm
  rcases (by omega : f = 0 ∨ f = 1 ∨ f = 2 ∨ f = 3 ∨ f = 4 ∨ f = 5 ∨ f = 6 ∨ f = 7 ∨ f = 8 ∨ f = 9 ∨ f = 10) with rfl | rfl | rfl | rfl | rfl | rfl | rfl | rfl | rfl | rfl | rfl
  · refine ex_ret (.int (nI P.length)) ⟨_, rfl⟩ hok (fun L mi ml Q h q => ?_) (fun L mi ml Q h q => ?_)
    · rw [s137, if_pos (by decide), s16, h.2.2.1.1, ret1, s137_67]
      exact q mi ml h sameM_rf
    · rw [M1 L mi ml Q h, s233_120 (fun _ z => absurd z (by decide)), if_pos (show nI 0 < 3 by decide), if_neg (by decide), if_pos (by decide), h.2.2.1.1, ret1, s234_17]
      exact q mi ml h sameC_rf
  · refine ex_ret (.int (nI (gD (rep P D)))) ⟨_, rfl⟩ hok (fun L mi ml Q h q => ?_) (fun L mi ml Q h q => ?_)
    · rw [s137, if_neg (by decide), if_pos (by decide), s18, h.2.2.1.2.1, ret1, s137_75]
      exact q mi ml h sameM_rf
    · rw [M1 L mi ml Q h, s233_120 (fun _ z => absurd z (by decide)), if_pos (show nI 0 < 3 by decide), if_neg (by decide), if_neg (by decide), if_pos (by decide), mg_d (mG_g h.2.2.1), ret1, s234_17]
      exact q mi ml h sameC_rf
  · refine ex_ret (.int (nI D.length)) ⟨_, rfl⟩ hok (fun L mi ml Q h q => ?_) (fun L mi ml Q h q => ?_)
    · rw [s137, if_neg (by decide), if_neg (by decide), if_pos (by decide), s20, ret1, s137_83 (sh40 L), c88 (sh40 L) h.2.2.1.2.2.2.1, ret1, s137_86, show szI (some (D.map nI)) = nI D.length from congrArg nI (List.length_map _)]
      exact q mi ml h sameM_rf
    · rw [M1 L mi ml Q h, s233_120 (fun _ z => absurd z (by decide)), if_pos (show nI 0 < 3 by decide), if_neg (by decide), if_neg (by decide), if_neg (by decide), if_pos (by decide), h.2.2.1.2.1, ret1, s234_17]
      exact q mi ml h sameC_rf
  · refine ex_ret (.int (nI (sN (gP (rep P D)) 6))) ⟨_, rfl⟩ hok (fun L mi ml Q h q => ?_) (fun L mi ml Q h q => ?_)
    · rw [s137, if_neg (by decide), if_neg (by decide), if_neg (by decide), if_pos (by decide)]
      refine Eq.mpr (c31 (f := 5) (by omega) hok.1 hok.2.1 h.2.2.1 (gP (rep P D)) (fun i hi => rfl)) ?_
      rw [ret1, s137_95, sp]
      exact q mi ml h sameM_rf
    · rw [M1 L mi ml Q h, s233_120 (fun _ z => absurd z (by decide)), if_pos (show nI 0 < 3 by decide), if_neg (by decide), if_neg (by decide), if_neg (by decide), if_neg (by decide), if_pos (by decide)]
      refine Eq.mpr (c232 (a := 6) (by omega) (gP (rep P D)) (fun j hj => by rw [h.2.2.1.2.2.2.1 (6 + j) (by omega)]; unfold encN; rw [if_neg (by omega), if_pos (by omega), Nat.add_sub_cancel_left])) ?_
      rw [ret1, s233_220, ret1, s234_17]
      exact q mi ml h sameC_rf
  · refine ex_ret (.int (nI (sN (gW (rep P D)) 6))) ⟨_, rfl⟩ hok (fun L mi ml Q h q => ?_) (fun L mi ml Q h q => ?_)
    · rw [s137, if_neg (by decide), if_neg (by decide), if_neg (by decide), if_neg (by decide), if_pos (by decide)]
      refine Eq.mpr (c31 (f := 4) (by omega) hok.1 hok.2.1 h.2.2.1 (gW (rep P D)) (fun i hi => rfl)) ?_
      rw [ret1, s137_104, sw]
      exact q mi ml h sameM_rf
    · rw [M1 L mi ml Q h, s233_120 (fun _ z => absurd z (by decide)), if_pos (show nI 0 < 3 by decide), if_neg (by decide), if_neg (by decide), if_neg (by decide), if_neg (by decide), if_neg (by decide), if_pos (by decide)]
      refine Eq.mpr (c232 (a := 0) (by omega) (gW (rep P D)) (fun j hj => by rw [h.2.2.1.2.2.2.1 (0 + j) (by omega), Nat.zero_add]; unfold encN; rw [if_pos hj])) ?_
      rw [ret1, s233_226, ret1, s234_17]
      exact q mi ml h sameC_rf
  · refine ex_ret (.int (nI (maskN (fun j => !gE (rep P D) j) P.length))) ⟨_, rfl⟩ hok (fun L mi ml Q h q => ?_) (fun L mi ml Q h q => ?_)
    · rw [s137, if_neg (by decide), if_neg (by decide), if_neg (by decide), if_neg (by decide), if_neg (by decide), if_pos (by decide), c30 hP h.2.2.1, ret1, s137_112]
      exact q mi ml h sameM_rf
    · rw [M1 L mi ml Q h, s233_120 (fun _ z => absurd z (by decide)), if_pos (show nI 0 < 3 by decide), if_neg (by decide), if_neg (by decide), if_neg (by decide), if_neg (by decide), if_neg (by decide), if_neg (by decide), if_pos (by decide), s195, h.2.2.1.1, mg_m (mG_g h.2.2.1), left_n _ hP, ret1, s233_231, ret1, s234_17]
      exact q mi ml h sameC_rf
  · refine ex_ret (.int (nI (gL (rep P D)))) ⟨_, rfl⟩ hok (fun L mi ml Q h q => ?_) (fun L mi ml Q h q => ?_)
    · rw [s137, if_neg (by decide), if_neg (by decide), if_neg (by decide), if_neg (by decide), if_neg (by decide), if_neg (by decide), if_pos (by decide), s19, h.2.2.1.2.2.1, ret1, s137_120]
      exact q mi ml h sameM_rf
    · rw [M1 L mi ml Q h, s233_120 (fun _ z => absurd z (by decide)), if_pos (show nI 0 < 3 by decide), if_neg (by decide), if_neg (by decide), if_neg (by decide), if_neg (by decide), if_neg (by decide), if_neg (by decide), if_neg (by decide), if_pos (by decide), mg_l (mG_g h.2.2.1), ret1, s234_17]
      exact q mi ml h sameC_rf
  · refine ex_ret (.int (nI (sN (fun i => if ofN (pl P i).1 1 then 1 else 0) P.length))) ⟨_, rfl⟩ hok (fun L mi ml Q h q => ?_) (fun L mi ml Q h q => ?_)
    · rw [s137, if_neg (by decide), if_neg (by decide), if_neg (by decide), if_neg (by decide), if_neg (by decide), if_neg (by decide), if_neg (by decide), if_pos (by decide), c32 hok.1 h.2.2.1, ret1, s137_128]
      exact q mi ml h sameM_rf
    · rw [M1 L mi ml Q h, s233_120 (fun _ z => absurd z (by decide)), if_pos (show nI 0 < 3 by decide), if_neg (by decide), if_neg (by decide), if_neg (by decide), if_neg (by decide), if_neg (by decide), if_neg (by decide), if_neg (by decide), if_neg (by decide), ret1, s234_17]
      refine Eq.mp ?_ (q mi ml h sameC_rf)
      congr 4
  · refine ex_ret (.int (nI (sN (isN R) 6))) ⟨_, rfl⟩ hok (fun L mi ml Q h q => ?_) (fun L mi ml Q h q => ?_)
    · rw [s137, if_neg (by decide), if_neg (by decide), if_neg (by decide), if_neg (by decide), if_neg (by decide), if_neg (by decide), if_neg (by decide), if_neg (by decide), if_pos (by decide)]
      refine Eq.mpr (c83 (shRows L) (by omega) (by omega) (by omega) R (fun k hk => h.1 k hk)) ?_
      rw [ret1, s137_136]
      exact q mi ml h sameM_rf
    · rw [M1 L mi ml Q h, s233_120 (fun _ z => absurd z (by decide)), if_pos (show nI 0 < 3 by decide), if_neg (by decide), if_neg (by decide), if_neg (by decide), if_neg (by decide), if_neg (by decide), if_neg (by decide), if_neg (by decide), if_neg (by decide), ret1, s234_17]
      refine Eq.mp ?_ (q mi ml h sameC_rf)
      congr 4
      simp
  · refine ex_ret (.int (nI (sN (isN T) 4))) ⟨_, rfl⟩ hok (fun L mi ml Q h q => ?_) (fun L mi ml Q h q => ?_)
    · rw [s137, if_neg (by decide), if_neg (by decide), if_neg (by decide), if_neg (by decide), if_neg (by decide), if_neg (by decide), if_neg (by decide), if_neg (by decide), if_neg (by decide), if_pos (by decide)]
      refine Eq.mpr (c83 (shTexts L) (by omega) (by omega) (by omega) T (fun k hk => h.2.1 k hk)) ?_
      rw [ret1, s137_144]
      exact q mi ml h sameM_rf
    · rw [M1 L mi ml Q h, s233_120 (fun _ z => absurd z (by decide)), if_pos (show nI 0 < 3 by decide), if_neg (by decide), if_neg (by decide), if_neg (by decide), if_neg (by decide), if_neg (by decide), if_neg (by decide), if_neg (by decide), if_neg (by decide), ret1, s234_17]
      refine Eq.mp ?_ (q mi ml h sameC_rf)
      congr 4
      simp
  · refine ex_ret (.int (nI (sN (isN K) 3))) ⟨_, rfl⟩ hok (fun L mi ml Q h q => ?_) (fun L mi ml Q h q => ?_)
    · rw [s137, if_neg (by decide), if_neg (by decide), if_neg (by decide), if_neg (by decide), if_neg (by decide), if_neg (by decide), if_neg (by decide), if_neg (by decide), if_neg (by decide), if_neg (by decide), if_pos (by decide)]
      refine Eq.mpr (c83 (shKept L) (by omega) (by omega) (by omega) (fun k => (K k).map (fun D => D.map nI)) (fun k hk => ⟨h.2.2.2.1 k hk, fun xs hxs => kept_le hok.2.2 hk hxs⟩)) ?_
      rw [ret1, s137_152, kept_n K 3]
      exact q mi ml h sameM_rf
    · refine Eq.mpr ((M1 L mi ml Q h).trans (p120 (d := 97) h.2.2.2.1)) ?_
      rw [ret1, s234_17]
      refine Eq.mp ?_ (q mi ml h sameC_rf)
      show _ = Q (some (.int (nI (0 + 0 + 0 + sN (isN K) 3)))) _
      rw [show 0 + 0 + 0 + sN (isN K) 3 = sN (isN K) 3 by omega]
