/-! soonest: the model, the call -/
def skL (S : pK) : Int32 := match S with
  | none => 1000000
  | some x => nI x.1
def skM (mi : Nat → Nat → Int32) (s : Nat) (S : pK) : Prop := match S with
  | none => True
  | some x => ∀ j, j < s → mi 84 j = nI (x.2.getD j 0)
def sameS (mi mi' : Nat → Nat → Int32) : Prop := ∀ a j, a ≠ 83 → a ≠ 84 → a ≠ 85 → mi' a j = mi a j
theorem mod_ok {P : pP} {g : pG} {xs : List Int32} {s : Nat} {nx : Nat → Nat} : ∀ c, c ≤ P.length ^ s → okK2 (itN (modF P g xs s 0 nx 0 []) c none) s := by
  intro c
  induction c with
  | zero => intro _; exact trivial
  | succ c ih =>
    intro hc
    show okK2 (modF P g xs s 0 nx 0 [] c (itN (modF P g xs s 0 nx 0 []) c none)) s
    unfold modF
    cases he : evC P g xs s 0 nx 0 c with
    | none => exact ih (by omega)
    | some d =>
      show okK2 (if noBd (itN (modF P g xs s 0 nx 0 []) c none) d = true then itN (modF P g xs s 0 nx 0 []) c none else some (d, [] ++ dgl P.length s c)) s
      split
      · exact ih (by omega)
      · have h1 := evC_le _ _ _ _ _ _ he (by omega)
        have h2 := dgl_at (n := P.length) (s := s) (c := c) s 0 (by omega)
        rw [Nat.mod_eq_of_lt (by omega)] at h2
        exact ⟨h1.2, h2.1⟩
section SOONM
variable {R : pR} {P : pP} {g : pG} {L : Nat} {mi : Nat → Nat → Int32} {ml : Nat → Nat → Int64} {d : Nat} {Q : Option Value → xM → Prop} {xs : List Int32} {r to : Nat}
theorem c209_loop {mi0 : Nat → Nat → Int32} {x3 : Int32} (hok : okP P) (hn : 0 < P.length) (hr : r < 6) (hto : to < 6) (hR : R r = some xs) (hs5 : xs.length ≤ 5) (hgd : ∀ i, i < xs.length → goodW (xs.getD i 0)) (hd : gD g < 100) (hb : ∀ i, gW g i < 100 ∧ gP g i < 100) (hRR : mR R mi0) (h4 : mi0 68 4 = nI P.length) (hg : mgR mi0 g) (hm : ∀ i, i < P.length → mpR mi0 i (pl P i)) (q : ∀ mi', sameS mi0 mi' → skM mi' xs.length (sk P g xs xs.length 0 (gP g) 0 [] none) → match sk P g xs xs.length 0 (gP g) 0 [] none with
    | none => Q (some (.int (-9))) (SH L, mi', ml, MR)
    | some x => Q (some (.int (nI x.1))) (SH L, xw (xcpy mi' 84 0 70 (40 * to) xs.length) 69 to (nI xs.length), ml, MR)) : ∀ m c mi u8, c + m = P.length ^ xs.length → skM mi xs.length (itN (modF P g xs xs.length 0 (gP g) 0 []) c none) → sameS mi0 mi → X 209 51 [.ref 68, .int (nI r), .int (nI to), .int x3, .int (nI xs.length), .int (skL (itN (modF P g xs xs.length 0 (gP g) 0 []) c none)), .int (nI (P.length ^ xs.length)), .int (nI c), u8] [] (SH L, mi, ml, MR) (d + 5) Q := by
  have hP := hok.1
  have hpow : P.length ^ xs.length ≤ 6 ^ 5 := Nat.le_trans (Nat.pow_le_pow_left hP _) (Nat.pow_le_pow_right (by omega) hs5)
  have h65 : (6 : Nat) ^ 5 = 7776 := rfl
  intro m
  induction m with
  | zero =>
    intro c mi u8 hc hB hs
    have hO := mod_ok (P := P) (g := g) (xs := xs) (s := xs.length) (nx := gP g) c (by omega)
    rw [show c = P.length ^ xs.length by omega, cod_sk _ _ _ _ _ _ (by omega)] at hB hO ⊢
    have hq := q mi hs hB
    generalize sk P g xs xs.length 0 (gP g) 0 [] none = C at hq hB hO
    rw [s209_51g, if_neg (nI_nlt (Nat.le_refl _) (by omega))]
    cases C with
    | none =>
      rw [if_pos (show skL none = 1000000 from rfl)]
      exact hq
    | some x =>
      have hx : x.1 ≤ 60 := hO.1
      rw [if_neg (show ¬ skL (some x) = 1000000 from fun z => by have := nI_inj (b := 1000000) (by omega) (by omega) (show nI x.1 = nI 1000000 from z); omega), show (40 : Int32) * nI to = nI (40 * to) from nI_mul 40 to]
      refine Eq.mpr (c188 (a := 0) (b := 40 * to) (n := xs.length) (n0 := 5) (n2 := 240) rfl rfl (by omega) (by omega) (by omega) (by omega) (by omega)) ?_
      rw [ret0, s209_128g (xin_nI hto (by omega)), nI_clamp (by omega)]
      exact hq
  | succ m ih =>
    intro c mi u8 hc hB hs
    have hcl : c < P.length ^ xs.length := by omega
    have hmod : c % P.length ^ xs.length = c := Nat.mod_eq_of_lt hcl
    have hO := mod_ok (P := P) (g := g) (xs := xs) (s := xs.length) (nx := gP g) c (by omega)
    have ihc := ih (c + 1)
    have enx : itN (modF P g xs xs.length 0 (gP g) 0 []) (c + 1) none = modF P g xs xs.length 0 (gP g) 0 [] c (itN (modF P g xs xs.length 0 (gP g) 0 []) c none) := rfl
    rw [enx] at ihc
    rw [s209_51g, if_pos (nI_lt hcl (by omega))]
    refine c208 (d := d) (g := g) (lim := 60) hok hn hr (mR_congr hRR (fun j => hs _ _ (by omega) (by omega) (by omega)) (fun j => hs _ _ (by omega) (by omega) (by omega))) hR hs5 hgd hd hb (by omega) (by rw [hs _ _ (by omega) (by omega) (by omega)]; exact h4) (fun j hj => by rw [hs _ _ (by omega) (by omega) (by omega)]; exact hg j hj) (fun i hi => ?_) (by omega) (fun m1 a1 a2 => ?_)
    · have := hm i hi
      unfold mpR at this ⊢
      rw [hs _ _ (by omega) (by omega) (by omega), hs _ _ (by omega) (by omega) (by omega), hs _ _ (by omega) (by omega) (by omega), hs _ _ (by omega) (by omega) (by omega)]
      exact this
    · have hs1 : sameS mi0 m1 := fun a j h1 h2 h3 => by rw [a1 a j h1 h3, hs a j h1 h2 h3]
      have hev := ev_C (P := P) (g := g) (xs := xs) (s := xs.length) (c := c) xs.length 0 (gP g) 0 (by omega)
      rw [hmod] at hev
      have hB1 : skM m1 xs.length (itN (modF P g xs xs.length 0 (gP g) 0 []) c none) := by
        generalize itN (modF P g xs xs.length 0 (gP g) 0 []) c none = B at hB
        cases B with
        | none => exact trivial
        | some x => exact fun j hj => by rw [a1 _ _ (by omega) (by omega)]; exact hB j hj
      unfold modF at ihc
      rw [hev, ret1, s209_67g]
      have hd2 := dgl_at (n := P.length) (s := xs.length) (c := c) xs.length 0 (by omega)
      rw [hmod] at hd2
      change (∀ (mi : Nat → Nat → Int32) (u8 : Value), c + 1 + m = P.length ^ xs.length → skM mi xs.length (match evC P g xs xs.length 0 (gP g) 0 c with
        | none => itN (modF P g xs xs.length 0 (gP g) 0 []) c none
        | some d => if noBd (itN (modF P g xs xs.length 0 (gP g) 0 []) c none) d = true then itN (modF P g xs xs.length 0 (gP g) 0 []) c none else some (d, [] ++ dgl P.length xs.length c)) → sameS mi0 mi → X 209 51 [.ref 68, .int (nI r), .int (nI to), .int x3, .int (nI xs.length), .int (skL (match evC P g xs xs.length 0 (gP g) 0 c with
        | none => itN (modF P g xs xs.length 0 (gP g) 0 []) c none
        | some d => if noBd (itN (modF P g xs xs.length 0 (gP g) 0 []) c none) d = true then itN (modF P g xs xs.length 0 (gP g) 0 []) c none else some (d, [] ++ dgl P.length xs.length c))), .int (nI (P.length ^ xs.length)), .int (nI (c + 1)), u8] [] (SH L, mi, ml, MR) (d + 5) Q) at ihc
      generalize itN (modF P g xs xs.length 0 (gP g) 0 []) c none = B at hB1 hO ihc
      have hskL : ∀ y : Nat, y ≤ 60 → ((nI y < skL B) ↔ ¬ noBd B y = true) := fun y hy => by
        cases B with
        | none => exact ⟨fun _ z => (by cases z), fun _ => nI_lt (b := 1000000) (by omega) (by omega)⟩
        | some x =>
          have hx : x.1 ≤ 60 := hO.1
          constructor
          · intro h z
            have h1 : x.1 ≤ y := of_decide_eq_true z
            exact nI_nlt h1 (by omega) h
          · intro h
            exact nI_lt (Nat.lt_of_not_le (fun z => h (decide_eq_true z))) (by omega)
      cases he : evC P g xs xs.length 0 (gP g) 0 c with
      | none =>
        rw [he] at ihc
        have hn1 : ¬ dayM none < skL B := by
          cases B with
          | none => decide
          | some x =>
            have hx : x.1 ≤ 60 := hO.1
            exact nI_nlt (a := 1000000) (by omega) (by omega)
        rw [if_neg hn1, nI_1]
        exact ihc m1 _ (by omega) hB1 hs1
      | some y =>
        rw [he] at ihc
        have hy := evC_le _ _ _ _ _ _ he (by omega)
        show (if nI y < skL B then _ else _)
        by_cases hnb : noBd B y = true
        · rw [if_neg (fun z => (hskL y hy.2).mp z hnb), nI_1]
          have ihc := ihc m1 (.int (nI y)) (by omega)
          simp only [if_pos hnb] at ihc
          exact ihc hB1 hs1
        · rw [if_pos ((hskL y hy.2).mpr hnb)]
          simp only [if_neg hnb] at ihc
          refine Eq.mpr (c188 (a := 0) (b := 0) (n := 5) (n0 := 5) (n2 := 5) rfl rfl (by omega) (by omega) (by omega) (by omega) (by omega)) ?_
          rw [ret0, s209_94g, nI_1]
          refine ihc _ _ (by omega) (fun j hj => ?_) (fun a j h1 h2 h3 => ?_)
          · simp only [xcpy]
            rw [if_pos ⟨trivial, by omega, by omega⟩, show 0 + (j - 0) = j by omega, a2 j hj]
            show nI (dg P.length xs.length c j) = nI ((dgl P.length xs.length c).getD j 0)
            rw [hd2.2 j hj, Nat.zero_add]
          · simp only [xcpy]
            rw [if_neg (fun z => h2 z.1)]
            exact hs1 a j h1 h2 h3
end SOONM
theorem op_soonest (x1 x2 : Int32) : OpI 122 209 [.int x1, .int x2] := op_of fun R T P D K S hok => by
  have hP := hok.1.1
  have hD := hok.2.1.1
  have hb := rep_le P D
  have hbb : ∀ i, gW (rep P D) i < 100 ∧ gP (rep P D) i < 50 := fun i => by have := hb.2 i; omega
  rcases num_cases x2 6 (by omega) with hx | ⟨to, hto, rfl⟩
  · refine ex_ret (.int (-1)) ⟨_, rfl⟩ hok (fun L mi ml Q h k => ?_) (fun L mi ml Q h k => ?_)
    · rw [s122, c82n (shRows L) (by omega) (by omega) hx, ret1, s122_8n]; exact k mi ml h sameM_rf
    · rw [s209, c155, ret1, s209_4]
      by_cases h1 : ¬ x1 < 0 ∧ ¬ nI 5 < x1
      · rw [bI_t h1, if_neg i1_ne0, c155, ret1, bI_f (in_bad (n := 5) (by omega) hx), s209_11, if_pos rfl]; exact k mi ml h sameC_rf
      · rw [bI_f h1, if_pos rfl]; exact k mi ml h sameC_rf
  rcases num_cases x1 6 (by omega) with hx | ⟨r, hr, rfl⟩
  · refine ex_ret (.int (-1)) ⟨_, rfl⟩ hok (fun L mi ml Q h k => ?_) (fun L mi ml Q h k => ?_)
    · rw [s122, c82 (shRows L) (by omega) hto, ret1, s122_8 (strip_row hto), c82n (shRows L) (by omega) (by omega) hx, ret1, s122_24n (strip_row hto), s146n, ret1, s122_27 (strip_row hto), if_neg (by decide)]; exact k mi ml h sameM_rf
    · rw [s209, c155, ret1, bI_f (in_bad (n := 5) (by omega) hx), s209_4, if_pos rfl]; exact k mi ml h sameC_rf
  have C1 : ∀ L mi ml Q, Cst R T P D K S mi ml → Xm 122 [.ref 2, .int (nI r), .int (nI to)] (SH L, mi, ml, MR) 99 Q = Xm 146 [.ref 2, .ref (3 + 2 + 2 * r)] (SH L, mi, ml, MR) 98 (fun v μ' => X 122 27 [.ref 2, .int (nI r), .int (nI to), .ref (3 + 2 + 2 * to), xmk, xmk] (v.toList ++ []) μ' 99 Q) := fun L mi ml Q h => by
    rw [s122, c82 (shRows L) (by omega) hto, ret1, s122_8 (strip_row hto), c82 (shRows L) (by omega) hr, ret1, s122_24 (strip_row hto) (strip_row hr)]
  have M1 : ∀ L mi ml Q, Mst R T P D K S mi ml → Xm 209 [.ref 68, .int (nI r), .int (nI to)] (SH L, mi, ml, MR) 99 Q = Xm 206 [.ref 68, .int (nI r)] (SH L, mi, ml, MR) 98 (fun v μ' => X 209 21 [.ref 68, .int (nI r), .int (nI to), xmk, xmk, xmk, xmk, xmk, xmk] (v.toList ++ []) μ' 99 Q) := fun L mi ml Q h => by
    rw [s209, c155, ret1, bI_t (in_ok (n := 5) (by omega) (by omega)), s209_4, if_neg i1_ne0, c155, ret1, bI_t (in_ok (n := 5) (by omega) (by omega)), s209_11, if_neg i1_ne0]
  by_cases h0 : P.length = 0
  · refine ex_ret (.int (-4)) ⟨_, rfl⟩ hok (fun L mi ml Q h k => ?_) (fun L mi ml Q h k => ?_)
    · rw [C1 L mi ml Q h, s146 (strip_row hr), s17, h.2.2.1.1, h0, if_neg (by decide), ret1, s146_13 (strip_row hr), if_neg i1_ne0, ret1, s122_27 (strip_row hto), if_neg (by decide)]; exact k mi ml h sameM_rf
    · rw [M1 L mi ml Q h, s206 (fun _ => xin_nI hr (by omega)) (fun _ _ => xin_nI hr (by omega)), h.2.2.1.1, h0, if_pos (by decide), ret1, s209_21 (fun z => absurd z (by decide)), if_neg (by decide)]; exact k mi ml h sameC_rf
  by_cases hp : sw (R r) = 0
  · obtain ⟨xs, hR, hs5, hgd⟩ := sw_0 hp
    have C2 : ∀ L mi ml (Q : Option Value → xM → Prop), Cst R T P D K S mi ml → (∀ m1, Cst R T P D K S m1 ml → sameM mi m1 ml ml → skR m1 (sk P (rep P D) xs xs.length 0 (gP (rep P D)) 0 [] none) → okK2 (sk P (rep P D) xs xs.length 0 (gP (rep P D)) 0 [] none) xs.length → X 122 44 [.ref 2, .int (nI r), .int (nI to), .ref (3 + 2 + 2 * to), .int 0, xmk] [.int (skV (sk P (rep P D) xs xs.length 0 (gP (rep P D)) 0 [] none))] (SH L, m1, ml, MR) 99 Q) → Xm 122 [.ref 2, .int (nI r), .int (nI to)] (SH L, mi, ml, MR) 99 Q := fun L mi ml Q h q => by
      obtain ⟨hst, hln⟩ := h.1 r hr
      rw [hR] at hst
      rw [C1 L mi ml Q h]
      refine c146_ok (d := 94) (n := P.length) (by omega) hP h.2.2.1.1 (strip_row hr) (by omega) hst hs5 hgd (fun m1 a1 a2 => ?_)
      have h1 := Cst_scr (mi' := m1) (ml' := ml) hP h (fun a j ha => a2 a j (by omega) (by omega)) (fun _ _ _ => rfl)
      rw [ret1, s122_27 (strip_row hto), if_pos rfl]
      refine c77 (d := 89) (g := rep P D) hok.1 h1.1.2.2.1.1 h1.1.2.2.1.2.1 (by omega) hbb (fun i hi => cG_pl h1.1.2.2.1 hi) a1 hs5 hgd (fun m2 b1 b2 b3 => ?_)
      have h2 := Cst_scr (mi' := m2) (ml' := ml) hP h1.1 (fun a j ha => b1 a j (by omega)) (fun _ _ _ => rfl)
      rw [ret1]
      exact q m2 h2.1 (sameM_tr h1.2 h2.2) b2 b3
    have M2 : ∀ L mi ml (Q : Option Value → xM → Prop), Mst R T P D K S mi ml → (∀ mi', sameS mi mi' → skM mi' xs.length (sk P (rep P D) xs xs.length 0 (gP (rep P D)) 0 [] none) → match sk P (rep P D) xs xs.length 0 (gP (rep P D)) 0 [] none with
        | none => Q (some (.int (-9))) (SH L, mi', ml, MR)
        | some x => Q (some (.int (nI x.1))) (SH L, xw (xcpy mi' 84 0 70 (40 * to) xs.length) 69 to (nI xs.length), ml, MR)) → Xm 209 [.ref 68, .int (nI r), .int (nI to)] (SH L, mi, ml, MR) 99 Q := fun L mi ml Q h q => by
      have h69 : mi 69 r = nI xs.length := by
        have := (h.1 r hr).1
        rw [hR] at this
        exact this
      rw [M1 L mi ml Q h, c206 (d := 97) (by omega) hP h.2.2.1.1 hr h.1, if_pos hp, ret1, s209_21 (fun _ => xin_nI hr (by omega)), if_pos rfl, nI_clamp (by omega), h69, c207 h.2.2.1.1 (by omega), ret1, s209_46]
      exact c209_loop (d := 94) (g := rep P D) (mi0 := mi) hok.1 (by omega) hr hto hR hs5 hgd (by omega) (fun i => by have := hbb i; omega) h.1 h.2.2.1.1 (mG_g h.2.2.1) (fun i hi => mG_pl h.2.2.1 hi) q (P.length ^ xs.length) 0 mi _ (by omega) trivial (fun _ _ _ _ _ => rfl)
    have hO := sk_ok (P := P) (g := rep P D) (xs := xs) (s := xs.length) xs.length 0 (gP (rep P D)) 0 [] none (by show 0 + xs.length = xs.length; omega) (by omega) trivial
    generalize sk P (rep P D) xs xs.length 0 (gP (rep P D)) 0 [] none = C at C2 M2 hO
    cases C with
    | none =>
      refine ex_ret (.int (-9)) ⟨_, rfl⟩ hok (fun L mi ml Q h k => ?_) (fun L mi ml Q h k => ?_)
      · refine C2 L mi ml Q h (fun m1 a1 a2 a3 a4 => ?_)
        rw [s122_44 (strip_row hto), if_pos (show skV none = -9 from rfl)]
        exact k m1 ml a1 a2
      · refine M2 L mi ml Q h (fun m1 a1 a2 => ?_)
        have h1 := Mst_scr (mi' := m1) h (fun j hj => a1 68 j (by omega) (by omega) (by omega)) (fun a j ha hb => a1 a j (by omega) (by omega) (by omega))
        exact k m1 ml h1.1 h1.2
    | some x =>
      have hx60 : x.1 ≤ 60 := hO.1
      have hxl : x.2.length = xs.length := hO.2
      refine ⟨.int (nI x.1), up R to (some (x.2.map nI)), T, P, D, K, S, ⟨_, rfl⟩, hok, (fun L mi ml Q h k => ?_), (fun L mi ml Q h k => ?_)⟩
      · refine C2 L mi ml Q h (fun m1 a1 a2 a3 a4 => ?_)
        rw [s122_44 (strip_row hto), if_neg (show ¬ skV (some x) = -9 from dayI_ne (by omega)), s73, ret1, s122_61 (strip_row hto) (sh56 L)]
        refine c97 (d := 96) (strip_row hto) (sh56 L) (by omega) (by omega) ⟨by omega, by omega, by omega⟩ a3.2 (by rw [List.length_map]; omega) (by rw [List.length_map]; omega) (fun m2 b1 b2 => ?_)
        rw [ret0, s122_64 (strip_row hto)]
        have hC := Cst_row (L := L) (x := some (x.2.map nI)) hP hto a1 (by rw [show 5 + 2 * to = 3 + 2 + 2 * to by omega]; exact b1) (fun ys hy => by cases hy; rw [List.length_map]; omega) (fun a j h1 h2 => b2 a j (by omega) (by omega))
        exact k _ _ hC.1 (sameM_tr a2 hC.2)
      · refine M2 L mi ml Q h (fun m1 a1 a2 => ?_)
        have h1 := Mst_scr (mi' := m1) h (fun j hj => a1 68 j (by omega) (by omega) (by omega)) (fun a j ha hb => a1 a j (by omega) (by omega) (by omega))
        have hxc : ∀ a j, a ≠ 70 → xcpy m1 84 0 70 (40 * to) xs.length a j = m1 a j := fun a j ha => by
          simp only [xcpy]
          rw [if_neg (fun z => ha z.1)]
        have hM := Mst_row (mi' := xw (xcpy m1 84 0 70 (40 * to) xs.length) 69 to (nI xs.length)) (x := some (x.2.map nI)) hto h1.1 (by rw [xw_eq, if_pos rfl, ← hxl]; exact (congrArg nI (List.length_map _)).symm) (fun ys hy => by
          cases hy
          refine ⟨by rw [List.length_map]; omega, fun j hj => ?_⟩
          rw [List.length_map] at hj
          rw [xw_ne (by omega)]
          simp only [xcpy]
          rw [if_pos ⟨trivial, by omega, by omega⟩, show 0 + (40 * to + j - 40 * to) = j by omega, a2 j (by omega), getD_nI]) ?_ ?_ ?_
        · exact k _ _ hM.1 (sameC_tr h1.2 hM.2)
        · intro q hq
          rw [xw_eq, if_neg hq, hxc _ _ (by omega)]
        · intro q j hq hqt hj
          rw [xw_ne (by omega)]
          simp only [xcpy]
          rw [if_neg (by omega)]
        · intro a j h1 h2
          rw [xw_ne h1, hxc a j h2]
  · refine ex_S (.int (-3)) (sFound (sw (R r)) S) ⟨_, rfl⟩ hok (fun L mi ml Q h k => ?_) (fun L mi ml Q h k => ?_)
    · obtain ⟨hst, hln⟩ := h.1 r hr
      rw [C1 L mi ml Q h, c146 (d := 95) (n := P.length) (by omega) hP h.2.2.1.1 (strip_row hr) hst hln hp, ret1, s122_27 (strip_row hto), if_neg (by decide)]
      exact k _ _ (Cst_found hP h).1 (Cst_found hP h).2
    · rw [M1 L mi ml Q h, c206 (d := 97) (by omega) hP h.2.2.1.1 hr h.1, if_neg hp, ret1, s209_21 (fun z => absurd z (by decide)), if_neg (by decide)]
      exact k _ _ (Mst_found h).1 (Mst_found h).2
