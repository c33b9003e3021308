/-! row, text, lay, put, tear -/
theorem Cst_row {L : Nat} {mi mi' : Nat → Nat → Int32} {ml : Nat → Nat → Int64} {R T : pR} {P : pP} {D : List Nat} {K : Nat → Option (List Nat)} {S : pS} {r : Nat} {x : Option (List Int32)} (hP : P.length ≤ 6) (hr : r < 6) (h : Cst R T P D K S mi ml) (hs : stR mi' (5 + 2 * r) x) (hx : ∀ xs, x = some xs → xs.length ≤ 40) (hc : ∀ a j, a ≠ 5 + 2 * r → a ≠ 5 + 2 * r + 1 → mi' a j = mi a j) : Cst (up R r x) T P D K S mi' ml ∧ sameM mi mi' ml ml := by
  refine ⟨⟨fun q hq => ?_, cT_congr h.2.1 (fun a j _ _ => hc a j (by omega) (by omega)), cG_congr hP h.2.2.1 (fun a j _ _ => hc a j (by omega) (by omega)), cK_congr h.2.2.2.1 (fun a j _ _ => hc a j (by omega) (by omega)), cS_congr h.2.2.2.2 (fun j => hc 2 j (by omega) (by omega)) (fun j => hc 67 j (by omega) (by omega)) (fun _ => rfl)⟩, fun a j ha => hc a j (by omega) (by omega), fun _ _ _ => rfl⟩
  by_cases e : q = r
  · subst e
    simp only [up, if_true]
    exact ⟨hs, hx⟩
  · simp only [up, if_neg e]
    exact ⟨stR_congr (h.1 q hq).1 (hc _ _ (by omega) (by omega)) (fun j => hc _ j (by omega) (by omega)), (h.1 q hq).2⟩
theorem Mst_row {mi mi' : Nat → Nat → Int32} {ml : Nat → Nat → Int64} {R T : pR} {P : pP} {D : List Nat} {K : Nat → Option (List Nat)} {S : pS} {r : Nat} {x : Option (List Int32)} (hr : r < 6) (h : Mst R T P D K S mi ml) (hs : mi' 69 r = szI x) (hx : ∀ xs, x = some xs → xs.length ≤ 40 ∧ ∀ j, j < xs.length → mi' 70 (40 * r + j) = xs.getD j 0) (ho : ∀ q, q ≠ r → mi' 69 q = mi 69 q) (ho2 : ∀ q j, q < 6 → q ≠ r → j < 40 → mi' 70 (40 * q + j) = mi 70 (40 * q + j)) (hc : ∀ a j, a ≠ 69 → a ≠ 70 → mi' a j = mi a j) : Mst (up R r x) T P D K S mi' ml ∧ sameC mi mi' ml ml := by
  refine ⟨⟨fun q hq => ?_, mT_congr h.2.1 (fun j => hc _ j (by omega) (by omega)) (fun j => hc _ j (by omega) (by omega)), mG_congr h.2.2.1 (hc _ _ (by omega) (by omega)) (hc _ _ (by omega) (by omega)) (fun a j _ _ => hc a j (by omega) (by omega)), mK_congr h.2.2.2.1 (fun j => hc _ j (by omega) (by omega)) (fun j => hc _ j (by omega) (by omega)), mS_congr h.2.2.2.2 (hc _ _ (by omega) (by omega)) (hc _ _ (by omega) (by omega)) (fun j => hc _ j (by omega) (by omega)) (fun _ => rfl)⟩, fun a j ha => hc a j (by omega) (by omega), fun _ _ _ => rfl⟩
  by_cases e : q = r
  · subst e
    simp only [up, if_true]
    exact ⟨hs, hx⟩
  · simp only [up, if_neg e]
    refine ⟨by rw [ho q e]; exact (h.1 q hq).1, fun xs hxs => ?_⟩
    obtain ⟨b1, b2⟩ := (h.1 q hq).2 xs hxs
    exact ⟨b1, fun j hj => by rw [ho2 q j hq e (by omega)]; exact b2 j hj⟩
theorem op_row (x y : Int32) : OpI 99 157 [.int x, .int y] := op_of fun R T P D K S hok => by
  rcases num_cases x 6 (by omega) with hx | ⟨r, hr, rfl⟩
  · refine ex_ret (.int (-1)) ⟨_, rfl⟩ hok (fun L mi ml Q h k => ?_) (fun L mi ml Q h k => ?_)
    · rw [s99, c82n (shRows L) (by omega) (by omega) hx, ret1, s99_9n, s144n, ret1, s99_16]; exact k mi ml h sameM_rf
    · rw [s157, c155, ret1, bI_f (in_bad (n := 5) (by omega) hx), s157_4 (fun z => absurd rfl z), if_pos rfl]; exact k mi ml h sameC_rf
  · have hS := fun L => ((shRows L).2 r hr).2
    by_cases h1 : (40 : Int32) < y
    · refine ex_ret (.int (-1)) ⟨_, rfl⟩ hok (fun L mi ml Q h k => ?_) (fun L mi ml Q h k => ?_)
      · rw [s99, c82 (shRows L) (by omega) hr, ret1, s99_9 (hS L), s144 (hS L), if_pos h1, ret1, s99_16]; exact k mi ml h sameM_rf
      · rw [s157, c155, ret1, bI_t (in_ok (n := 5) (by omega) (by omega)), s157_4 (fun _ z => absurd h1 z), if_neg i1_ne0, if_pos h1]; exact k mi ml h sameC_rf
    · by_cases h2 : y < 0
      · refine ex_S (.int (-3)) (sFound 5 S) ⟨_, rfl⟩ hok (fun L mi ml Q h k => ?_) (fun L mi ml Q h k => ?_)
        · rw [s99, c82 (shRows L) (by omega) hr, ret1, s99_9 (hS L), s144 (hS L), if_neg h1, if_pos h2, c141_5, ret1, s144_20 (hS L), ret1, s99_16]
          exact k _ _ (Cst_found hok.1.1 h).1 (Cst_found hok.1.1 h).2
        · rw [s157, c155, ret1, bI_t (in_ok (n := 5) (by omega) (by omega)), s157_4 (fun _ _ z => absurd h2 z), if_neg i1_ne0, if_neg h1, if_pos h2, c152_5, ret1, s157_24]
          exact k _ _ (Mst_found h).1 (Mst_found h).2
      · obtain ⟨n, hn, rfl⟩ : ∃ j, j < 2 ^ 31 ∧ y = nI j := (i32_cases y).resolve_left h2
        have hn2 : n ≤ 40 := Nat.not_lt.mp fun z => h1 (nI_lt (a := 40) z hn)
        refine ⟨.int (nI n), up R r (some (List.replicate n 0)), T, P, D, K, S, ⟨_, rfl⟩, hok, (fun L mi ml Q h k => ?_), (fun L mi ml Q h k => ?_)⟩
        · rw [s99, c82 (shRows L) (by omega) hr, ret1, s99_9 (hS L), s144 (hS L), if_neg h1, if_neg h2, c92 (hS L) (by omega) hn2, ret0, s144_28 (hS L), ret1, s99_16]
          have := Cst_row (L := L) (x := some (List.replicate n 0)) hok.1.1 hr h (stR_begin (k := n) (v := 0)) (fun xs hxs => by cases hxs; simpa using hn2) (fun a j a1 a2 => by rw [xfill_ne (by omega), xw_ne (by omega)])
          exact k _ _ this.1 this.2
        · rw [s157, c155, ret1, bI_t (in_ok (n := 5) (by omega) (by omega)), s157_4 (fun _ _ _ => xin_nI hr (by omega)), if_neg i1_ne0, if_neg h1, if_neg h2, nI_clamp (by omega)]
          have e1 : ∀ j, (40 : Int32) * nI r + nI j = nI (40 * r + j) := fun j => by rw [show (40 : Int32) = nI 40 from rfl, nI_mul, nI_add]
          have hl := X_loop (mid := 157) (pc := 34) (d := 98 + 1) (Q := Q) (fun j => [.ref 68, .int (nI r), .int (nI n), .int (nI j)]) (fun j => (SH L, (fun c i => if c = 70 ∧ 40 * r ≤ i ∧ i < 40 * r + j then 0 else xw mi 69 r (nI n) c i), ml, MR)) 40 (fun j hj => by
            rw [s157_34 (fun _ => by rw [e1]; exact xin_nI (by omega) (by omega)), if_pos (show nI j < 40 from nI_lt (b := 40) hj (by omega)), e1, nI_clamp (by omega), nI_1]
            congr 3
            funext c i
            simp only [xw]
            by_cases z1 : c = 70
            · by_cases z2 : i = 40 * r + j
              · simp [z1, z2]
              · by_cases z3 : 40 * r ≤ i ∧ i < 40 * r + j
                · simp [z1, z2, z3, show i < 40 * r + (j + 1) by omega]
                · simp only [z1, z2, z3, and_false, if_false, true_and]
                  rw [if_neg (show ¬ (40 * r ≤ i ∧ i < 40 * r + (j + 1)) by omega)]
            · simp [z1])
          have e0 : (fun (c i : Nat) => if c = 70 ∧ 40 * r ≤ i ∧ i < 40 * r + 0 then 0 else xw mi 69 r (nI n) c i) = xw mi 69 r (nI n) := by
            funext c i
            rw [if_neg (by omega)]
          simp only [e0] at hl
          rw [show ([.ref 68, .int (nI r), .int (nI n), .int 0] : List Value) = [.ref 68, .int (nI r), .int (nI n), .int (nI 0)] from rfl, hl, s157_34 (fun z => absurd z (show ¬ nI 40 < 40 by decide)), if_neg (show ¬ nI 40 < 40 by decide)]
          have := Mst_row (mi' := fun c i => if c = 70 ∧ 40 * r ≤ i ∧ i < 40 * r + 40 then 0 else xw mi 69 r (nI n) c i) (x := some (List.replicate n 0)) hr h (by simp [xw, szI]) (fun xs hxs => by
            cases hxs
            refine ⟨by simpa using hn2, fun j hj => ?_⟩
            rw [List.length_replicate] at hj
            rw [if_pos ⟨rfl, by omega, by omega⟩]
            simp [List.getD_eq_getElem?_getD, List.getElem?_replicate, hj]) (fun q hq => by simp [xw, hq]) (fun q j hq hne hj => by
              rw [if_neg (fun z => by have := z.2; rcases Nat.lt_or_ge q r with hh | hh <;> omega), xw_ne (by omega)]) (fun a j a1 a2 => by simp [xw, a1, a2])
          exact k _ _ this.1 this.2
theorem Cst_text {L : Nat} {mi mi' : Nat → Nat → Int32} {ml : Nat → Nat → Int64} {R T : pR} {P : pP} {D : List Nat} {K : Nat → Option (List Nat)} {S : pS} {r : Nat} {x : Option (List Int32)} (hP : P.length ≤ 6) (hr : r < 4) (h : Cst R T P D K S mi ml) (hs : stR mi' (19 + 2 * r) x) (hx : ∀ xs, x = some xs → xs.length ≤ 60) (hc : ∀ a j, a ≠ 19 + 2 * r → a ≠ 19 + 2 * r + 1 → mi' a j = mi a j) : Cst R (up T r x) P D K S mi' ml ∧ sameM mi mi' ml ml := by
  refine ⟨⟨cR_congr h.1 (fun a j _ _ => hc a j (by omega) (by omega)), fun q hq => ?_, cG_congr hP h.2.2.1 (fun a j _ _ => hc a j (by omega) (by omega)), cK_congr h.2.2.2.1 (fun a j _ _ => hc a j (by omega) (by omega)), cS_congr h.2.2.2.2 (fun j => hc 2 j (by omega) (by omega)) (fun j => hc 67 j (by omega) (by omega)) (fun _ => rfl)⟩, fun a j ha => hc a j (by omega) (by omega), fun _ _ _ => rfl⟩
  by_cases e : q = r
  · subst e
    simp only [up, if_true]
    exact ⟨hs, hx⟩
  · simp only [up, if_neg e]
    exact ⟨stR_congr (h.2.1 q hq).1 (hc _ _ (by omega) (by omega)) (fun j => hc _ j (by omega) (by omega)), (h.2.1 q hq).2⟩
theorem Mst_text {mi mi' : Nat → Nat → Int32} {ml : Nat → Nat → Int64} {R T : pR} {P : pP} {D : List Nat} {K : Nat → Option (List Nat)} {S : pS} {r : Nat} {x : Option (List Int32)} (hr : r < 4) (h : Mst R T P D K S mi ml) (hs : mi' 71 r = szI x) (hx : ∀ xs, x = some xs → xs.length ≤ 60 ∧ ∀ j, j < xs.length → mi' 72 (60 * r + j) = xs.getD j 0) (ho : ∀ q, q ≠ r → mi' 71 q = mi 71 q) (ho2 : ∀ q j, q < 4 → q ≠ r → j < 60 → mi' 72 (60 * q + j) = mi 72 (60 * q + j)) (hc : ∀ a j, a ≠ 71 → a ≠ 72 → mi' a j = mi a j) : Mst R (up T r x) P D K S mi' ml ∧ sameC mi mi' ml ml := by
  refine ⟨⟨mR_congr h.1 (fun j => hc _ j (by omega) (by omega)) (fun j => hc _ j (by omega) (by omega)), fun q hq => ?_, mG_congr h.2.2.1 (hc _ _ (by omega) (by omega)) (hc _ _ (by omega) (by omega)) (fun a j _ _ => hc a j (by omega) (by omega)), mK_congr h.2.2.2.1 (fun j => hc _ j (by omega) (by omega)) (fun j => hc _ j (by omega) (by omega)), mS_congr h.2.2.2.2 (hc _ _ (by omega) (by omega)) (hc _ _ (by omega) (by omega)) (fun j => hc _ j (by omega) (by omega)) (fun _ => rfl)⟩, fun a j ha => hc a j (by omega) (by omega), fun _ _ _ => rfl⟩
  by_cases e : q = r
  · subst e
    simp only [up, if_true]
    exact ⟨hs, hx⟩
  · simp only [up, if_neg e]
    refine ⟨by rw [ho q e]; exact (h.2.1 q hq).1, fun xs hxs => ?_⟩
    obtain ⟨b1, b2⟩ := (h.2.1 q hq).2 xs hxs
    exact ⟨b1, fun j hj => by rw [ho2 q j hq e (by omega)]; exact b2 j hj⟩
theorem op_text (x y : Int32) : OpI 105 163 [.int x, .int y] := op_of fun R T P D K S hok => by
  rcases num_cases x 4 (by omega) with hx | ⟨r, hr, rfl⟩
  · refine ex_ret (.int (-1)) ⟨_, rfl⟩ hok (fun L mi ml Q h k => ?_) (fun L mi ml Q h k => ?_)
    · rw [s105, c82n (shTexts L) (by omega) (by omega) hx, ret1, s105_9n, s144n, ret1, s105_17]; exact k mi ml h sameM_rf
    · rw [s163, c156, ret1, bI_f (in_bad (n := 3) (by omega) hx), s163_4 (fun z => absurd rfl z), if_pos rfl]; exact k mi ml h sameC_rf
  · have hS := fun L => ((shTexts L).2 r hr).2
    by_cases h1 : (60 : Int32) < y
    · refine ex_ret (.int (-1)) ⟨_, rfl⟩ hok (fun L mi ml Q h k => ?_) (fun L mi ml Q h k => ?_)
      · rw [s105, c82 (shTexts L) (by omega) hr, ret1, s105_9 (hS L), s144 (hS L), if_pos h1, ret1, s105_17]; exact k mi ml h sameM_rf
      · rw [s163, c156, ret1, bI_t (in_ok (n := 3) (by omega) (by omega)), s163_4 (fun _ z => absurd h1 z), if_neg i1_ne0, if_pos h1]; exact k mi ml h sameC_rf
    · by_cases h2 : y < 0
      · refine ex_S (.int (-3)) (sFound 5 S) ⟨_, rfl⟩ hok (fun L mi ml Q h k => ?_) (fun L mi ml Q h k => ?_)
        · rw [s105, c82 (shTexts L) (by omega) hr, ret1, s105_9 (hS L), s144 (hS L), if_neg h1, if_pos h2, c141_5, ret1, s144_20 (hS L), ret1, s105_17]
          exact k _ _ (Cst_found hok.1.1 h).1 (Cst_found hok.1.1 h).2
        · rw [s163, c156, ret1, bI_t (in_ok (n := 3) (by omega) (by omega)), s163_4 (fun _ _ z => absurd h2 z), if_neg i1_ne0, if_neg h1, if_pos h2, c152_5, ret1, s163_24]
          exact k _ _ (Mst_found h).1 (Mst_found h).2
      · obtain ⟨n, hn, rfl⟩ : ∃ j, j < 2 ^ 31 ∧ y = nI j := (i32_cases y).resolve_left h2
        have hn2 : n ≤ 60 := Nat.not_lt.mp fun z => h1 (nI_lt (a := 60) z hn)
        refine ⟨.int (nI n), R, up T r (some (List.replicate n 32)), P, D, K, S, ⟨_, rfl⟩, hok, (fun L mi ml Q h k => ?_), (fun L mi ml Q h k => ?_)⟩
        · rw [s105, c82 (shTexts L) (by omega) hr, ret1, s105_9 (hS L), s144 (hS L), if_neg h1, if_neg h2, c92 (hS L) (by omega) hn2, ret0, s144_28 (hS L), ret1, s105_17]
          have := Cst_text (L := L) (x := some (List.replicate n 32)) hok.1.1 hr h (stR_begin (k := n) (v := 32)) (fun xs hxs => by cases hxs; simpa using hn2) (fun a j a1 a2 => by rw [xfill_ne (by omega), xw_ne (by omega)])
          exact k _ _ this.1 this.2
        · rw [s163, c156, ret1, bI_t (in_ok (n := 3) (by omega) (by omega)), s163_4 (fun _ _ _ => xin_nI hr (by omega)), if_neg i1_ne0, if_neg h1, if_neg h2, nI_clamp (by omega)]
          have e1 : ∀ j, (60 : Int32) * nI r + nI j = nI (60 * r + j) := fun j => by rw [show (60 : Int32) = nI 60 from rfl, nI_mul, nI_add]
          have hl := X_loop (mid := 163) (pc := 34) (d := 98 + 1) (Q := Q) (fun j => [.ref 68, .int (nI r), .int (nI n), .int (nI j)]) (fun j => (SH L, (fun c i => if c = 72 ∧ 60 * r ≤ i ∧ i < 60 * r + j then 32 else xw mi 71 r (nI n) c i), ml, MR)) 60 (fun j hj => by
            rw [s163_34 (fun _ => by rw [e1]; exact xin_nI (by omega) (by omega)), if_pos (show nI j < 60 from nI_lt (b := 60) hj (by omega)), e1, nI_clamp (by omega), nI_1]
            congr 3
            funext c i
            simp only [xw]
            by_cases z1 : c = 72
            · by_cases z2 : i = 60 * r + j
              · simp [z1, z2]
              · by_cases z3 : 60 * r ≤ i ∧ i < 60 * r + j
                · simp [z1, z2, z3, show i < 60 * r + (j + 1) by omega]
                · simp only [z1, z2, z3, and_false, if_false, true_and]
                  rw [if_neg (show ¬ (60 * r ≤ i ∧ i < 60 * r + (j + 1)) by omega)]
            · simp [z1])
          have e0 : (fun (c i : Nat) => if c = 72 ∧ 60 * r ≤ i ∧ i < 60 * r + 0 then 32 else xw mi 71 r (nI n) c i) = xw mi 71 r (nI n) := by
            funext c i
            rw [if_neg (by omega)]
          simp only [e0] at hl
          rw [show ([.ref 68, .int (nI r), .int (nI n), .int 0] : List Value) = [.ref 68, .int (nI r), .int (nI n), .int (nI 0)] from rfl, hl, s163_34 (fun z => absurd z (show ¬ nI 60 < 60 by decide)), if_neg (show ¬ nI 60 < 60 by decide)]
          have := Mst_text (mi' := fun c i => if c = 72 ∧ 60 * r ≤ i ∧ i < 60 * r + 60 then 32 else xw mi 71 r (nI n) c i) (x := some (List.replicate n 32)) hr h (by simp [xw, szI]) (fun xs hxs => by
            cases hxs
            refine ⟨by simpa using hn2, fun j hj => ?_⟩
            rw [List.length_replicate] at hj
            rw [if_pos ⟨rfl, by omega, by omega⟩]
            simp [List.getD_eq_getElem?_getD, List.getElem?_replicate, hj]) (fun q hq => by simp [xw, hq]) (fun q j hq hne hj => by
              rw [if_neg (fun z => by have := z.2; rcases Nat.lt_or_ge q r with hh | hh <;> omega), xw_ne (by omega)]) (fun a j a1 a2 => by simp [xw, a1, a2])
          exact k _ _ this.1 this.2
theorem op_lay (x y z : Int32) : OpI 100 158 [.int x, .int y, .int z] := op_of fun R T P D K S hok => by
  rcases num_cases x 6 (by omega) with hx | ⟨r, hr, rfl⟩
  · refine ex_ret (.int (-1)) ⟨_, rfl⟩ hok (fun L mi ml Q h k => ?_) (fun L mi ml Q h k => ?_)
    · rw [s100, c82n (shRows L) (by omega) (by omega) hx, ret1, s100_8n]; exact k mi ml h sameM_rf
    · rw [s158, c155, ret1, bI_f (in_bad (n := 5) (by omega) hx), s158_4 (fun z => absurd rfl z) (fun z => absurd rfl z), if_pos rfl]; exact k mi ml h sameC_rf
  · have hS := fun L => ((shRows L).2 r hr).2
    cases hR : R r with
    | none =>
      refine ex_S (.int (-3)) (sFound 1 S) ⟨_, rfl⟩ hok (fun L mi ml Q h k => ?_) (fun L mi ml Q h k => ?_)
      · have hst := (h.1 r hr).1
        rw [hR] at hst
        rw [s100, c82 (shRows L) (by omega) hr, ret1, s100_8 (hS L), c145_none (hS L) hst (by omega), ret1, s100_24 (hS L), if_neg i3_ne0]
        exact k _ _ (Cst_found hok.1.1 h).1 (Cst_found hok.1.1 h).2
      · have hst := (h.1 r hr).1
        rw [hR] at hst
        rw [s158, c155, ret1, bI_t (in_ok (n := 5) (by omega) (by omega)), s158_4 (fun _ => xin_nI hr (by omega)) (fun _ _ => xin_nI hr (by omega)), if_neg i1_ne0, nI_clamp (by omega), hst, if_pos (by decide), c152_1, ret1, s158_23]
        exact k _ _ (Mst_found h).1 (Mst_found h).2
    | some xs =>
      by_cases hy : ¬ y < 0 ∧ y < nI xs.length
      · obtain ⟨j, hj, rfl⟩ : ∃ j, j < 2 ^ 31 ∧ y = nI j := (i32_cases y).resolve_left hy.1
        refine ⟨.int 1, up R r (some (xs.set j z)), T, P, D, K, sTold (xs.getD j 0) S, ⟨_, rfl⟩, hok, (fun L mi ml Q h k => ?_), (fun L mi ml Q h k => ?_)⟩
        · have hst := (h.1 r hr).1
          have hln := (h.1 r hr).2 xs hR
          rw [hR] at hst
          have hj2 : j < xs.length := (nI_ltI hj (by omega)).mp hy.2
          have ht := (Cst_told (v := xs.getD j 0) hok.1.1 h)
          have hst2 : stR (xw mi 2 11 (xs.getD j 0)) (5 + 2 * r) (some xs) := stR_congr hst (by rw [xw_ne (by omega)]) (fun i => by rw [xw_ne (by omega)])
          rw [s100, c82 (shRows L) (by omega) hr, ret1, s100_8 (hS L), c145_in (hS L) hst (by omega) hln hy, ret1, s100_24 (hS L), if_pos rfl, c90 (hS L) hst (by omega) hln hj, ret1, s100_41 (hS L), c91 (hS L) hst2 (by omega) hln hj2, ret0, s100_51 (hS L)]
          have h2 := Cst_row (L := L) hok.1.1 hr ht.1 (stR_set (i := j) (v := z) hst2) (fun ys hys => by cases hys; simpa using hln) (fun a i a1 a2 => by rw [xw_ne a2])
          exact k _ _ h2.1 (sameM_tr ht.2 h2.2)
        · have hst := (h.1 r hr).1
          obtain ⟨hln, hcon⟩ := (h.1 r hr).2 xs hR
          rw [hR] at hst
          have hj2 : j < xs.length := (nI_ltI hj (by omega)).mp hy.2
          rw [s158, c155, ret1, bI_t (in_ok (n := 5) (by omega) (by omega)), s158_4 (fun _ => xin_nI hr (by omega)) (fun _ _ => xin_nI hr (by omega)), if_neg i1_ne0, nI_clamp (by omega), hst, if_neg (show ¬ szI (some xs) < 0 from nI_nneg (by omega)), show (0 : Int64) = (0 : Int32).toInt64 from rfl, c149, ret1]
          have e1 : szI (some xs) - 1 = nI (xs.length - 1) := nI_sub (b := 1) (by omega)
          rw [e1, bI_t (in_ok (by omega) (by omega))]
          have e2 : (40 : Int32) * nI r + nI j = nI (40 * r + j) := by rw [show (40 : Int32) = nI 40 from rfl, nI_mul, nI_add]
          rw [s158_39 (fun _ => by rw [e2]; exact xin_nI (by omega) (by omega)) (fun _ => by rw [e2]; exact xin_nI (by omega) (by omega)), if_neg i1_ne0, e2, nI_clamp (by omega), hcon j hj2, s153, ret1, s158_79]
          have h1 := Mst_row (mi' := xw mi 70 (40 * r + j) z) (x := some (xs.set j z)) hr h (by rw [xw_ne (by omega), hst]; simp [szI]) (fun ys hys => by
            cases hys
            refine ⟨by simpa using hln, fun i hi => ?_⟩
            rw [List.length_set] at hi
            rw [xw_eq, List.getD_eq_getElem?_getD, List.getElem?_set]
            by_cases hij : i = j
            · subst hij; rw [if_pos rfl, if_pos rfl, if_pos hi]; rfl
            · rw [if_neg (by omega), if_neg (fun e => hij e.symm), hcon i hi, List.getD_eq_getElem?_getD]) (fun q hq => by rw [xw_ne (by omega)]) (fun q i hq hne hi => by rw [xw_eq, if_neg (fun e => by rcases Nat.lt_or_ge q r with hh | hh <;> omega)]) (fun a i a1 a2 => by rw [xw_ne a2])
          have h2 := Mst_told (v := xs.getD j 0) h1.1
          exact k _ _ h2.1 (sameC_tr h1.2 h2.2)
      · have hy2 : y < 0 ∨ ¬ y < nI xs.length := by
          by_cases h1 : y < 0
          · exact Or.inl h1
          · exact Or.inr (fun h2 => hy ⟨h1, h2⟩)
        refine ex_S (.int (-3)) (sFound 2 S) ⟨_, rfl⟩ hok (fun L mi ml Q h k => ?_) (fun L mi ml Q h k => ?_)
        · have hst := (h.1 r hr).1
          have hln := (h.1 r hr).2 xs hR
          rw [hR] at hst
          rw [s100, c82 (shRows L) (by omega) hr, ret1, s100_8 (hS L), c145_out (hS L) hst (by omega) hln hy2, ret1, s100_24 (hS L), if_neg i3_ne0]
          exact k _ _ (Cst_found hok.1.1 h).1 (Cst_found hok.1.1 h).2
        · have hst := (h.1 r hr).1
          obtain ⟨hln, hcon⟩ := (h.1 r hr).2 xs hR
          rw [hR] at hst
          rw [s158, c155, ret1, bI_t (in_ok (n := 5) (by omega) (by omega)), s158_4 (fun _ => xin_nI hr (by omega)) (fun _ _ => xin_nI hr (by omega)), if_neg i1_ne0, nI_clamp (by omega), hst, if_neg (show ¬ szI (some xs) < 0 from nI_nneg (by omega)), show (0 : Int64) = (0 : Int32).toInt64 from rfl, c149, ret1]
          rw [bI_f (pred_bad (by omega) hy2), s158_39 (fun z => absurd rfl z) (fun z => absurd rfl z), if_pos rfl, c152_2, ret1, s158_47]
          exact k _ _ (Mst_found h).1 (Mst_found h).2
theorem op_put (x y z : Int32) : OpI 106 164 [.int x, .int y, .int z] := op_of fun R T P D K S hok => by
  rcases num_cases x 4 (by omega) with hx | ⟨r, hr, rfl⟩
  · refine ex_ret (.int (-1)) ⟨_, rfl⟩ hok (fun L mi ml Q h k => ?_) (fun L mi ml Q h k => ?_)
    · rw [s106, c82n (shTexts L) (by omega) (by omega) hx, ret1, s106_8n]; exact k mi ml h sameM_rf
    · rw [s164, c156, ret1, bI_f (in_bad (n := 3) (by omega) hx), s164_4 (fun z => absurd rfl z) (fun z => absurd rfl z), if_pos rfl]; exact k mi ml h sameC_rf
  · have hS := fun L => ((shTexts L).2 r hr).2
    cases hR : T r with
    | none =>
      refine ex_S (.int (-3)) (sFound 1 S) ⟨_, rfl⟩ hok (fun L mi ml Q h k => ?_) (fun L mi ml Q h k => ?_)
      · have hst := (h.2.1 r hr).1
        rw [hR] at hst
        rw [s106, c82 (shTexts L) (by omega) hr, ret1, s106_8 (hS L), c145_none (hS L) hst (by omega), ret1, s106_24 (hS L), if_neg i3_ne0]
        exact k _ _ (Cst_found hok.1.1 h).1 (Cst_found hok.1.1 h).2
      · have hst := (h.2.1 r hr).1
        rw [hR] at hst
        rw [s164, c156, ret1, bI_t (in_ok (n := 3) (by omega) (by omega)), s164_4 (fun _ => xin_nI hr (by omega)) (fun _ _ => xin_nI hr (by omega)), if_neg i1_ne0, nI_clamp (by omega), hst, if_pos (by decide), c152_1, ret1, s164_23]
        exact k _ _ (Mst_found h).1 (Mst_found h).2
    | some xs =>
      by_cases hy : ¬ y < 0 ∧ y < nI xs.length
      · obtain ⟨j, hj, rfl⟩ : ∃ j, j < 2 ^ 31 ∧ y = nI j := (i32_cases y).resolve_left hy.1
        refine ⟨.int (xs.getD j 0 + 1000), R, up T r (some (xs.set j z.toInt8.toInt32)), P, D, K, S, ⟨_, rfl⟩, hok, (fun L mi ml Q h k => ?_), (fun L mi ml Q h k => ?_)⟩
        · have hst := (h.2.1 r hr).1
          have hln := (h.2.1 r hr).2 xs hR
          rw [hR] at hst
          have hj2 : j < xs.length := (nI_ltI hj (by omega)).mp hy.2
          rw [s106, c82 (shTexts L) (by omega) hr, ret1, s106_8 (hS L), c145_in (hS L) hst (by omega) hln hy, ret1, s106_24 (hS L), if_pos rfl, c90 (hS L) hst (by omega) hln hj, ret1, s106_40 (hS L), c91 (hS L) hst (by omega) hln hj2, ret0, s106_50 (hS L)]
          have h2 := Cst_text (L := L) hok.1.1 hr h (stR_set (i := j) (v := z.toInt8.toInt32) hst) (fun ys hys => by cases hys; simpa using hln) (fun a i a1 a2 => by rw [xw_ne a2])
          exact k _ _ h2.1 h2.2
        · have hst := (h.2.1 r hr).1
          obtain ⟨hln, hcon⟩ := (h.2.1 r hr).2 xs hR
          rw [hR] at hst
          have hj2 : j < xs.length := (nI_ltI hj (by omega)).mp hy.2
          rw [s164, c156, ret1, bI_t (in_ok (n := 3) (by omega) (by omega)), s164_4 (fun _ => xin_nI hr (by omega)) (fun _ _ => xin_nI hr (by omega)), if_neg i1_ne0, nI_clamp (by omega), hst, if_neg (show ¬ szI (some xs) < 0 from nI_nneg (by omega)), show (0 : Int64) = (0 : Int32).toInt64 from rfl, c149, ret1]
          have e1 : szI (some xs) - 1 = nI (xs.length - 1) := nI_sub (b := 1) (by omega)
          rw [e1, bI_t (in_ok (by omega) (by omega))]
          have e2 : (60 : Int32) * nI r + nI j = nI (60 * r + j) := by rw [show (60 : Int32) = nI 60 from rfl, nI_mul, nI_add]
          rw [s164_39 (fun _ => by rw [e2]; exact xin_nI (by omega) (by omega)) (fun _ => by rw [e2]; exact xin_nI (by omega) (by omega)), if_neg i1_ne0, e2, nI_clamp (by omega), hcon j hj2]
          have h1 := Mst_text (mi' := xw mi 72 (60 * r + j) z.toInt8.toInt32) (x := some (xs.set j z.toInt8.toInt32)) hr h (by rw [xw_ne (by omega), hst]; simp [szI]) (fun ys hys => by
            cases hys
            refine ⟨by simpa using hln, fun i hi => ?_⟩
            rw [List.length_set] at hi
            rw [xw_eq, List.getD_eq_getElem?_getD, List.getElem?_set]
            by_cases hij : i = j
            · subst hij; rw [if_pos rfl, if_pos rfl, if_pos hi]; rfl
            · rw [if_neg (by omega), if_neg (fun e => hij e.symm), hcon i hi, List.getD_eq_getElem?_getD]) (fun q hq => by rw [xw_ne (by omega)]) (fun q i hq hne hi => by rw [xw_eq, if_neg (fun e => by rcases Nat.lt_or_ge q r with hh | hh <;> omega)]) (fun a i a1 a2 => by rw [xw_ne a2])
          exact k _ _ h1.1 h1.2
      · have hy2 : y < 0 ∨ ¬ y < nI xs.length := by
          by_cases h1 : y < 0
          · exact Or.inl h1
          · exact Or.inr (fun h2 => hy ⟨h1, h2⟩)
        refine ex_S (.int (-3)) (sFound 2 S) ⟨_, rfl⟩ hok (fun L mi ml Q h k => ?_) (fun L mi ml Q h k => ?_)
        · have hst := (h.2.1 r hr).1
          have hln := (h.2.1 r hr).2 xs hR
          rw [hR] at hst
          rw [s106, c82 (shTexts L) (by omega) hr, ret1, s106_8 (hS L), c145_out (hS L) hst (by omega) hln hy2, ret1, s106_24 (hS L), if_neg i3_ne0]
          exact k _ _ (Cst_found hok.1.1 h).1 (Cst_found hok.1.1 h).2
        · have hst := (h.2.1 r hr).1
          obtain ⟨hln, hcon⟩ := (h.2.1 r hr).2 xs hR
          rw [hR] at hst
          rw [s164, c156, ret1, bI_t (in_ok (n := 3) (by omega) (by omega)), s164_4 (fun _ => xin_nI hr (by omega)) (fun _ _ => xin_nI hr (by omega)), if_neg i1_ne0, nI_clamp (by omega), hst, if_neg (show ¬ szI (some xs) < 0 from nI_nneg (by omega)), show (0 : Int64) = (0 : Int32).toInt64 from rfl, c149, ret1]
          rw [bI_f (pred_bad (by omega) hy2), s164_39 (fun z => absurd rfl z) (fun z => absurd rfl z), if_pos rfl, c152_2, ret1, s164_47]
          exact k _ _ (Mst_found h).1 (Mst_found h).2
theorem op_tear (x : Int32) : OpI 102 160 [.int x] := op_of fun R T P D K S hok => by
  rcases num_cases x 6 (by omega) with hx | ⟨r, hr, rfl⟩
  · refine ex_ret (.int (-1)) ⟨_, rfl⟩ hok (fun L mi ml Q h k => ?_) (fun L mi ml Q h k => ?_)
    · rw [s102, c82n (shRows L) (by omega) (by omega) hx, ret1, s102_8n]; exact k mi ml h sameM_rf
    · rw [s160, c155, ret1, bI_f (in_bad (n := 5) (by omega) hx), s160_4 (fun z => absurd rfl z) (fun z => absurd rfl z), if_pos rfl]; exact k mi ml h sameC_rf
  · have hS := fun L => ((shRows L).2 r hr).2
    cases hR : R r with
    | none =>
      refine ex_S (.int (-3)) (sFound 1 S) ⟨_, rfl⟩ hok (fun L mi ml Q h k => ?_) (fun L mi ml Q h k => ?_)
      · have hst := (h.1 r hr).1
        rw [hR] at hst
        rw [s102, c82 (shRows L) (by omega) hr, ret1, s102_8 (hS L), c87 (x := none) (hS L) hst (by omega) (fun _ h => by cases h), ret1, s102_19 (hS L), bI_t rfl, if_neg i1_ne0, c141_1, ret1, s102_27 (hS L)]
        exact k _ _ (Cst_found hok.1.1 h).1 (Cst_found hok.1.1 h).2
      · have hst := (h.1 r hr).1
        rw [hR] at hst
        rw [s160, c155, ret1, bI_t (in_ok (n := 5) (by omega) (by omega)), s160_4 (fun _ => xin_nI hr (by omega)) (fun _ _ => xin_nI hr (by omega)), if_neg i1_ne0, nI_clamp (by omega), hst, if_pos (by decide), c152_1, ret1, s160_23]
        exact k _ _ (Mst_found h).1 (Mst_found h).2
    | some xs =>
      refine ⟨.int 1, up R r none, T, P, D, K, S, ⟨_, rfl⟩, hok, (fun L mi ml Q h k => ?_), (fun L mi ml Q h k => ?_)⟩
      · have hst := (h.1 r hr).1
        have hln := (h.1 r hr).2 xs hR
        rw [hR] at hst
        rw [s102, c82 (shRows L) (by omega) hr, ret1, s102_8 (hS L), c87 (hS L) hst (by omega) (fun _ h => by cases h; exact hln), ret1, s102_19 (hS L), bI_f (by simp), if_pos rfl, c95 (hS L), ret0, s102_32 (hS L)]
        have h2 := Cst_row (L := L) hok.1.1 hr h (stR_lose (a := 3 + 2 + 2 * r)) (fun ys hys => by cases hys) (fun a i a1 a2 => by rw [xw_ne a1])
        exact k _ _ h2.1 h2.2
      · have hst := (h.1 r hr).1
        obtain ⟨hln, hcon⟩ := (h.1 r hr).2 xs hR
        rw [hR] at hst
        rw [s160, c155, ret1, bI_t (in_ok (n := 5) (by omega) (by omega)), s160_4 (fun _ => xin_nI hr (by omega)) (fun _ _ => xin_nI hr (by omega)), if_neg i1_ne0, nI_clamp (by omega), hst, if_neg (show ¬ szI (some xs) < 0 from nI_nneg (by omega))]
        have h1 := Mst_row (mi' := xw mi 69 r (-1)) (x := none) hr h (by rw [xw_eq, if_pos rfl]; rfl) (fun ys hys => by cases hys) (fun q hq => by rw [xw_eq, if_neg hq]) (fun q i hq hne hi => by rw [xw_ne (by omega)]) (fun a i a1 a2 => by rw [xw_ne a1])
        exact k _ _ h1.1 h1.2
