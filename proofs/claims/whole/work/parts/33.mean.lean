/-! mean, copy -/
def sumL (xs : List Int32) : Nat → Int64
  | 0 => 0
  | k + 1 => sumL xs k + (xs.getD k 0).toInt64
theorem nI64_ne0 {n : Nat} (h : 0 < n) (hn : n < 2 ^ 31) : ¬ (nI n).toInt64 = 0 := by
  intro e
  have := congrArg Int64.toInt e
  rw [Int32.toInt_toInt64, nI_toInt hn] at this
  have h0 : (0 : Int64).toInt = 0 := rfl
  omega
theorem op_mean (x : Int32) : OpI 104 162 [.int x] := op_of fun R T P D K S hok => by
  rcases num_cases x 6 (by omega) with hx | ⟨r, hr, rfl⟩
  · refine ex_ret (.int (-1)) ⟨_, rfl⟩ hok (fun L mi ml Q h k => ?_) (fun L mi ml Q h k => ?_)
    · rw [s104, c82n (shRows L) (by omega) (by omega) hx, ret1, s104_8n]; exact k mi ml h sameM_rf
    · rw [s162, c155, ret1, bI_f (in_bad (n := 5) (by omega) hx), s162_4 (fun z => absurd rfl z) (fun z => absurd rfl z), if_pos rfl]; exact k mi ml h sameC_rf
  · have hS := fun L => ((shRows L).2 r hr).2
    cases hR : R r with
    | none =>
      refine ex_S (.int (-3)) (sFound 1 S) ⟨_, rfl⟩ hok (fun L mi ml Q h k => ?_) (fun L mi ml Q h k => ?_)
      · have hst := (h.1 r hr).1
        rw [hR] at hst
        rw [s104, c82 (shRows L) (by omega) hr, ret1, s104_8 (hS L), c87 (x := none) (hS L) hst (by omega) (fun _ h => by cases h), ret1, s104_19 (hS L), bI_t rfl, if_neg i1_ne0, c141_1, ret1, s104_27 (hS L)]
        exact k _ _ (Cst_found hok.1.1 h).1 (Cst_found hok.1.1 h).2
      · have hst := (h.1 r hr).1
        rw [hR] at hst
        rw [s162, c155, ret1, bI_t (in_ok (n := 5) (by omega) (by omega)), s162_4 (fun _ => xin_nI hr (by omega)) (fun _ _ => xin_nI hr (by omega)), if_neg i1_ne0, nI_clamp (by omega), hst, if_pos (by decide), c152_1, ret1, s162_23]
        exact k _ _ (Mst_found h).1 (Mst_found h).2
    | some xs =>
      by_cases h0 : xs.length = 0
      · refine ex_S (.int (-3)) (sFound 4 S) ⟨_, rfl⟩ hok (fun L mi ml Q h k => ?_) (fun L mi ml Q h k => ?_)
        · have hst := (h.1 r hr).1
          have hln := (h.1 r hr).2 xs hR
          rw [hR] at hst
          rw [s104, c82 (shRows L) (by omega) hr, ret1, s104_8 (hS L), c87 (hS L) hst (by omega) (fun _ h => by cases h; exact hln), ret1, s104_19 (hS L), bI_f (by simp), if_pos rfl, c88 (hS L) hst, ret1, s104_32 (hS L)]
          rw [if_neg (show ¬ (0 : Int32) < szI (some xs) by show ¬ (0 : Int32) < nI xs.length; rw [h0]; decide), c141_4, ret1, s104_42 (hS L)]
          exact k _ _ (Cst_found hok.1.1 h).1 (Cst_found hok.1.1 h).2
        · have hst := (h.1 r hr).1
          rw [hR] at hst
          have e0 : szI (some xs) = 0 := by show nI xs.length = 0; rw [h0]; rfl
          rw [e0] at hst
          rw [s162, c155, ret1, bI_t (in_ok (n := 5) (by omega) (by omega)), s162_4 (fun _ => xin_nI hr (by omega)) (fun _ _ => xin_nI hr (by omega)), if_neg i1_ne0, nI_clamp (by omega), hst, if_neg (by decide), if_pos rfl, c152_4, ret1, s162_38]
          exact k _ _ (Mst_found h).1 (Mst_found h).2
      · refine ex_S (.int 1) (sTold (sumL xs xs.length / (nI xs.length).toInt64).toInt32 S) ⟨_, rfl⟩ hok (fun L mi ml Q h k => ?_) (fun L mi ml Q h k => ?_)
        · have hst := (h.1 r hr).1
          have hln := (h.1 r hr).2 xs hR
          rw [hR] at hst
          rw [s104, c82 (shRows L) (by omega) hr, ret1, s104_8 (hS L), c87 (hS L) hst (by omega) (fun _ h => by cases h; exact hln), ret1, s104_19 (hS L), bI_f (by simp), if_pos rfl, c88 (hS L) hst, ret1, s104_32 (hS L)]
          rw [if_pos (show (0 : Int32) < szI (some xs) from nI_lt (a := 0) (by omega) (by omega))]
          have hl := X_loop (mid := 104) (pc := 49) (d := 98 + 1) (Q := Q) (fun j => [.ref 2, .int (nI r), .ref (3 + 2 + 2 * r), .int (nI xs.length), .long (sumL xs j), xmk, .int (nI j)]) (fun j => (SH L, mi, ml, MR)) xs.length (fun j hj => by
            rw [s104_49 (hS L) (fun z => absurd (nI_lt hj (by omega)) z), if_pos (nI_lt hj (by omega)), c90 (hS L) hst (by omega) hln (by omega), ret1, s104_63 (hS L), nI_1]
            rfl)
          refine Eq.mpr hl ?_
          rw [s104_49 (hS L) (fun _ => nI64_ne0 (by omega) (by omega)), if_neg (nI_nlt (by omega) (by omega))]
          exact k _ _ (Cst_told hok.1.1 h).1 (Cst_told hok.1.1 h).2
        · have hst := (h.1 r hr).1
          obtain ⟨hln, hcon⟩ := (h.1 r hr).2 xs hR
          rw [hR] at hst
          have hst : mi 69 r = nI xs.length := hst
          have hne : ¬ nI xs.length = 0 := nI_ne0 (by omega) (by omega)
          rw [s162, c155, ret1, bI_t (in_ok (n := 5) (by omega) (by omega)), s162_4 (fun _ => xin_nI hr (by omega)) (fun _ _ => xin_nI hr (by omega)), if_neg i1_ne0, nI_clamp (by omega), hst, if_neg (nI_nneg (by omega)), if_neg hne]
          have e1 : ∀ j, (40 : Int32) * nI r + nI j = nI (40 * r + j) := fun j => by rw [show (40 : Int32) = nI 40 from rfl, nI_mul, nI_add]
          have hl := X_loop (mid := 162) (pc := 44) (d := 98 + 1) (Q := Q) (fun j => [.ref 68, .int (nI r), .long (sumL xs j), xmk, .int (nI j)]) (fun j => (SH L, mi, ml, MR)) xs.length (fun j hj => by
            rw [s162_44 (xin_nI hr (by omega)) (fun _ => by rw [e1]; exact xin_nI (by omega) (by omega)) (fun _ => xin_nI hr (by omega)) (fun _ => by rw [nI_clamp (by omega), hst]; exact nI64_ne0 (by omega) (by omega)), nI_clamp (by omega), hst, if_pos (nI_lt hj (by omega)), e1, nI_clamp (by omega), hcon j hj, nI_1]
            rfl)
          refine Eq.mpr hl ?_
          rw [s162_44 (xin_nI hr (by omega)) (fun z => absurd z (by rw [nI_clamp (by omega), hst]; exact nI_nlt (by omega) (by omega))) (fun _ => xin_nI hr (by omega)) (fun _ => by rw [nI_clamp (by omega), hst]; exact nI64_ne0 (by omega) (by omega)), nI_clamp (by omega), hst, if_neg (nI_nlt (by omega) (by omega)), s153, ret1, s162_91]
          exact k _ _ (Mst_told h).1 (Mst_told h).2
