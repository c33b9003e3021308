/-! on -/
theorem op_on (x : Int32) : OpI 118 199 [.int x] := op_of fun R T P D K S hok => by
  have hP := hok.1.1
  rcases num_cases x 3 (by omega) with hx | ⟨k, hk, rfl⟩
  · refine ex_ret (.int (-1)) ⟨_, rfl⟩ hok (fun L mi ml Q h q => ?_) (fun L mi ml Q h q => ?_)
    · rw [s118, c82n (shKept L) (by omega) (by omega) hx, ret1, s118_8n]; exact q mi ml h sameM_rf
    · rw [s199, show (0 : Int64) = (0 : Int32).toInt64 from rfl, show (2 : Int64) = (nI 2).toInt64 from rfl, c149, ret1, bI_f (in_bad (n := 2) (by omega) hx), s199_9 (fun z => absurd rfl z), if_pos rfl]; exact q mi ml h sameC_rf
  have hS := fun L => ((shKept L).2 k hk).2
  have M1 : ∀ L mi ml Q, Xm 199 [.ref 68, .int (nI k)] (SH L, mi, ml, MR) 99 Q = X 199 9 [.ref 68, .int (nI k)] [.int 1] (SH L, mi, ml, MR) 99 Q := fun L mi ml Q => by
    rw [s199, show (0 : Int64) = (0 : Int32).toInt64 from rfl, show (2 : Int64) = (nI 2).toInt64 from rfl, c149, ret1, bI_t (in_ok (n := 2) (by omega) (by omega))]
  cases hK : K k with
  | none =>
    refine ex_S (.int (-3)) (sFound 1 S) ⟨_, rfl⟩ hok (fun L mi ml Q h q => ?_) (fun L mi ml Q h q => ?_)
    · have hst := h.2.2.2.1 k hk
      rw [hK] at hst
      rw [s118, c82 (shKept L) (by omega) hk, ret1, s118_8 (hS L), c87 (x := none) (hS L) hst (by omega) (fun _ h => by cases h), ret1, s118_19 (hS L), bI_t rfl, if_neg i1_ne0, c141_1, ret1, s118_27 (hS L)]
      exact q _ _ (Cst_found hok.1.1 h).1 (Cst_found hok.1.1 h).2
    · have hst := (h.2.2.2.1 k hk).1
      rw [hK] at hst
      rw [M1, s199_9 (fun _ => xin_nI hk (by omega)), if_neg i1_ne0, nI_clamp (by omega), hst, if_pos (by decide), c152_1, ret1, s199_28]
      exact q _ _ (Mst_found h).1 (Mst_found h).2
  | some E =>
    have hE := hok.2.2 k hk E hK
    have hE4 := hE.1
    refine ⟨.int (nI E.length), R, T, P, E, K, S, ⟨_, rfl⟩, ⟨hok.1, hE, hok.2.2⟩, (fun L mi ml Q h q => ?_), (fun L mi ml Q h q => ?_)⟩
    · have hst := h.2.2.2.1 k hk
      rw [hK] at hst
      have hst : stR mi (29 + 2 * k) (some (E.map nI)) := hst
      have hlm : (E.map nI).length ≤ 40 := by rw [List.length_map]; exact hE4
      rw [s118, c82 (shKept L) (by omega) hk, ret1, s118_8 (hS L), c87 (hS L) hst (by omega) (fun _ h => by cases h; exact hlm), ret1, s118_19 (hS L), bI_f (by simp), if_pos rfl, s26 (hS L)]
      refine c97 (sh40 L) (hS L) (by omega) (by omega) ⟨by omega, by omega, by omega⟩ hst hlm hlm (fun m' hs hc => ?_)
      rw [ret0, s26_8 (hS L)]
      refine c27 (D := E) hok.1 hE (by rw [hc _ _ (by omega) (by omega)]; exact h.2.2.1.1) (fun j hj => by rw [hc _ _ (by omega) (by omega), hc _ _ (by omega) (by omega), hc _ _ (by omega) (by omega), hc _ _ (by omega) (by omega)]; exact cG_ps h.2.2.1 j hj) hs (fun mi' hg hs2 => ?_)
      rw [ret0, s26_12 (hS L), ret0, s118_36 (hS L), c88 (x := some (E.map nI)) (hS L) (stR_congr hst (by rw [hs2 _ _ (by omega) (by omega), hc _ _ (by omega) (by omega)]) (fun j => by rw [hs2 _ _ (by omega) (by omega), hc _ _ (by omega) (by omega)])), ret1, s118_40 (hS L), show szI (some (E.map nI)) = nI E.length from congrArg nI (List.length_map _)]
      have hC := Cst_G (P' := P) (D' := E) (mi' := mi') h (cG_of hg (stR_congr hs (hs2 _ _ (by omega) (by omega)) (fun j => hs2 _ _ (by omega) (by omega)))) (fun a j ha => by rw [hs2 a j (by omega) (by omega), hc a j (by omega) (by omega)])
      exact q mi' ml hC.1 hC.2
    · obtain ⟨b1, b2⟩ := h.2.2.2.1 k hk
      rw [hK] at b1
      obtain ⟨c1, c2, c3⟩ := b2 E hK
      have e6 : (616 : Int32) * nI k = nI (616 * k) := nI_mul 616 k
      have e15 : nI (616 * k) + 15 = nI (616 * k + 15) := nI_add _ _
      have e615 : nI (616 * k) + 615 = nI (616 * k + 615) := nI_add _ _
      rw [M1, s199_9 (fun _ => xin_nI hk (by omega)), if_neg i1_ne0, nI_clamp (by omega), b1, if_neg (show ¬ bI ((some E).isSome = true) = 0 by rw [bI_t (show (some E).isSome = true from rfl)]; decide), e6]
      refine Eq.mpr (c188 (b := 0) (n := 15) (n0 := 1848) (n2 := 15) rfl rfl (by omega) (by omega) (by omega) (by omega) (by omega)) ?_
      rw [ret0, s199_48, e6, e15]
      refine Eq.mpr (c188 (b := 0) (n := 600) (n0 := 1848) (n2 := 600) rfl rfl (by omega) (by omega) (by omega) (by omega) (by omega)) ?_
      rw [ret0, s199_71 (by rw [e6, e615]; exact xin_nI (by omega) (by omega)), e6, e615, nI_clamp (by omega)]
      have hx : ∀ a j, a ≠ 77 → a ≠ 78 → xcpy (xcpy mi 79 (616 * k) 77 0 15) 79 (616 * k + 15) 78 0 600 a j = mi a j := fun a j h1 h2 => by
        simp only [xcpy]
        rw [if_neg (fun z => h2 z.1), if_neg (fun z => h1 z.1)]
      have h7 : ∀ j, j < 15 → xcpy (xcpy mi 79 (616 * k) 77 0 15) 79 (616 * k + 15) 78 0 600 77 j = mi 79 (616 * k + j) := fun j hj => by
        simp only [xcpy]
        rw [if_neg (fun z => absurd z.1 (by decide)), if_pos ⟨trivial, by omega, by omega⟩, Nat.sub_zero]
      have h8 : ∀ j, j < 600 → xcpy (xcpy mi 79 (616 * k) 77 0 15) 79 (616 * k + 15) 78 0 600 78 j = mi 79 (616 * k + 15 + j) := fun j hj => by
        simp only [xcpy]
        rw [if_pos ⟨trivial, by omega, by omega⟩, if_neg (fun z => absurd z.1 (by decide)), Nat.sub_zero]
      generalize xcpy (xcpy mi 79 (616 * k) 77 0 15) 79 (616 * k + 15) 78 0 600 = m1 at hx h7 h8 ⊢
      rw [hx _ _ (by omega) (by omega), c1, xw_eq, if_pos rfl]
      have hM := Mst_G (mi' := xw m1 68 10 (nI E.length)) (D' := E) h ⟨by rw [xw_eq, if_neg (by omega), hx _ _ (by omega) (by omega)]; exact h.2.2.1.1, by rw [xw_eq, if_pos rfl], fun i hi => by
        rw [xw_ne (by omega), xw_ne (by omega), xw_ne (by omega), xw_ne (by omega), hx _ _ (by omega) (by omega), hx _ _ (by omega) (by omega), hx _ _ (by omega) (by omega), hx _ _ (by omega) (by omega)]
        exact h.2.2.1.2.2.1 i hi, fun j hj => by
        rw [xw_ne (by omega), h7 j hj]
        exact c2 j hj, fun n j hn hj => by
        rw [xw_ne (by omega), h8 _ (by omega), ← Nat.add_assoc]
        exact c3 n j hn hj⟩ (fun j h1 h2 => by rw [xw_eq, if_neg h2, hx _ _ (by omega) (by omega)]) (fun a j h1 h2 => by rw [xw_ne h1, hx _ _ (by omega) (by omega)])
      exact q _ _ hM.1 hM.2
