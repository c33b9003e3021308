/-! soonest: the search, the call -/
theorem nx_up {g : pG} {us : Nat → Nat} {i : Nat} : up (fun i => gP g i + us i) i ((fun i => gP g i + us i) i + 1) = fun j => gP g j + up us i (us i + 1) j := by
  funext j
  unfold up
  by_cases h : j = i
  · subst h
    rw [if_pos rfl, if_pos rfl]
    show gP g j + us j + 1 = _
    omega
  · rw [if_neg h, if_neg h]
section SEEK2
variable {P : pP} {g : pG} {L : Nat} {mi mi0 : Nat → Nat → Int32} {ml : Nat → Nat → Int64} {d : Nat} {Q : Option Value → xM → Prop} {xs : List Int32} {us : Nat → Nat} {k i days : Nat} {pth : List Nat} {S : pK}
theorem c79 (hok : okP P) (h2 : mi0 38 2 = nI P.length) (h38 : mi0 38 3 = nI (gD g)) (hd : gD g < 100) (hb : ∀ i, gP g i < 50) (hpl : ∀ i, i < P.length → plR mi0 (42 + i) (pl P i) (gW g i) (gP g i) (gE g i)) (h58 : mi0 58 1 = nI 30) (hdu : dueR P g mi0 P.length 0) (hst : stR mi0 52 (some xs)) (h5 : xs.length ≤ 5) (hgd : ∀ i, i < xs.length → goodW (xs.getD i 0)) : ∀ r k us days pth S mi d D, D = d + r + 3 → k + r = xs.length → pth.length = k → days ≤ 60 → (∀ i, us i ≤ k) → skI mi0 xs.length us mi k pth S → ∀ Q : Option Value → xM → Prop, (∀ mi', skI mi0 xs.length us mi' k pth (sk P g xs r k (fun i => gP g i + us i) days pth S) → Q none (SH L, mi', ml, MR)) → Xm 79 [.ref 51, .int (nI k), .int (nI days)] (SH L, mi, ml, MR) D Q := by
  have hP := hok.1
  intro r
  induction r with
  | zero =>
    intro k us days pth S mi d D hD hk hp hds hus hI Q q
    subst hD
    have hI' := hI
    obtain ⟨s0, s54, s55, s60, s61, sS, sO⟩ := hI'
    have hst' : stR mi 52 (some xs) := stR_congr hst (s0 _ _ (by omega)) (fun _ => s0 _ _ (by omega))
    have go : Xm 88 [.ref 52] (SH L, mi, ml, MR) (d + 0 + 2) (fun v μ' => X 79 26 [.ref 51, .int (nI k), .int (nI days), xmk, xmk] (v.toList ++ [.int (nI k)]) μ' (d + 0 + 3) Q) ∨ noBd S days = true := by
      by_cases hn : noBd S days = true
      · exact Or.inr hn
      · refine Or.inl ?_
        have es : sk P g xs 0 k (fun i => gP g i + us i) days pth S = some (days, pth) := if_neg hn
        rw [es] at q
        have hst54 : stR (xw mi 51 7 (nI days)) 54 (some (pth.map nI)) := ⟨by rw [xw_ne (by omega), s54, List.length_map, hp, show k = xs.length by omega], fun j hj => by
          rw [List.length_map] at hj
          rw [xw_ne (by omega), s55 j (by omega), getD_nI]⟩
        rw [c88 (sh52 L) hst', ret1, s79_26, if_neg (show ¬ nI k < szI (some xs) from nI_nlt (by omega) (by omega))]
        refine c97 (d := d + 0) (sh56 L) (sh54 L) (by omega) (by omega) ⟨by omega, by omega, by omega⟩ hst54 (by rw [List.length_map]; omega) (by rw [List.length_map]; omega) (fun m' a1 a2 => ?_)
        rw [ret0, s79_45]
        refine q m' ⟨fun a j ha => ?_, ?_, fun j hj => ?_, ?_, fun i hi => ?_, ⟨?_, a1⟩, hds, ?_⟩
        · rw [a2 a j (by omega) (by omega), xw_ne (by omega)]; exact s0 a j ha
        · rw [a2 _ _ (by omega) (by omega), xw_ne (by omega)]; exact s54
        · rw [a2 _ _ (by omega) (by omega), xw_ne (by omega)]; exact s55 j hj
        · rw [a2 _ _ (by omega) (by omega), xw_ne (by omega)]; exact s60
        · rw [a2 _ _ (by omega) (by omega), xw_ne (by omega)]; exact s61 i hi
        · rw [a2 _ _ (by omega) (by omega), xw_eq, if_pos rfl]
        · show pth.length = xs.length
          omega
    have e : sk P g xs 0 k (fun i => gP g i + us i) days pth S = if noBd S days = true then S else some (days, pth) := rfl
    rw [s79]
    cases S with
    | none =>
      rw [if_pos (show mi 51 7 = -9 from sS)]
      exact go.resolve_right (fun z => by cases z)
    | some x =>
      have sO1 : x.1 ≤ 60 := sO.1
      rw [if_neg (show ¬ mi 51 7 = -9 by rw [sS.1]; exact dayI_ne (by omega)), sS.1]
      by_cases hlt : days < x.1
      · rw [if_pos (nI_lt hlt (by omega))]
        exact go.resolve_right (fun z => by have := of_decide_eq_true z; omega)
      · rw [if_neg (nI_nlt (by omega) (by omega))]
        rw [e, if_pos (show noBd (some x) days = true from decide_eq_true (by omega))] at q
        exact q mi hI
  | succ r ih =>
    intro k us days pth S mi d D hD hk hp hds hus hI Q q
    subst hD
    have hI' := hI
    obtain ⟨s0, s54, s55, s60, s61, sS, sO⟩ := hI'
    have ewv := wv_ok (hgd k (by omega))
    have hst' : stR mi 52 (some xs) := stR_congr hst (s0 _ _ (by omega)) (fun _ => s0 _ _ (by omega))
    have e : sk P g xs (r + 1) k (fun i => gP g i + us i) days pth S = if noBd S days = true then S else itN (fun i S => match dts P g xs (fun i => gP g i + us i) i k days with
      | none => S
      | some t => sk P g xs r (k + 1) (up (fun i => gP g i + us i) i ((fun i => gP g i + us i) i + 1)) t (pth ++ [i]) S) P.length S := rfl
    have go : ¬ noBd S days = true → Xm 88 [.ref 52] (SH L, mi, ml, MR) (d + (r + 1) + 2) (fun v μ' => X 79 26 [.ref 51, .int (nI k), .int (nI days), xmk, xmk] (v.toList ++ [.int (nI k)]) μ' (d + (r + 1) + 3) Q) := fun hn => by
      rw [e, if_neg hn] at q
      rw [c88 (sh52 L) hst', ret1, s79_26, if_pos (show nI k < szI (some xs) from nI_lt (by omega) (by omega))]
      have main : ∀ m i mi u4, i + m = P.length → skI mi0 xs.length us mi k pth (itN (fun i S => match dts P g xs (fun i => gP g i + us i) i k days with
          | none => S
          | some t => sk P g xs r (k + 1) (up (fun i => gP g i + us i) i ((fun i => gP g i + us i) i + 1)) t (pth ++ [i]) S) i S) → X 79 48 [.ref 51, .int (nI k), .int (nI days), .int (nI i), u4] [] (SH L, mi, ml, MR) (d + (r + 1) + 3) Q := by
        intro m
        induction m with
        | zero =>
          intro i mi u4 hi hJ
          rw [s79_48g, s16, hJ.1 _ _ (by omega), h2, ret1, s79_56g, if_neg (nI_nlt (by omega) (by omega))]
          rw [show i = P.length by omega] at hJ
          exact q mi hJ
        | succ m ihm =>
          intro i mi u4 hi hJ
          have hJ' := hJ
          obtain ⟨t0, t54, t55, t60, t61, tS, tO⟩ := hJ'
          have hst2 : stR mi 52 (some xs) := stR_congr hst (t0 _ _ (by omega)) (fun _ => t0 _ _ (by omega))
          have husi := hus i
          have nxt := ihm (i + 1)
          rw [s79_48g, s16, t0 _ _ (by omega), h2, ret1, s79_56g, if_pos (nI_lt (by omega) (by omega)), c90 (sh52 L) hst2 (by omega) h5 (by omega), ewv.1, ret1, s79_69g]
          refine Eq.mpr (c80 (d := d + (r + 1)) hok h2 h38 hd hb hpl h58 hdu hJ (by omega) (by omega) hds ewv.2) ?_
          rw [ret1, s79_73g, nI_1]
          have estep : ∀ B, itN (fun i S => match dts P g xs (fun i => gP g i + us i) i k days with
              | none => S
              | some t => sk P g xs r (k + 1) (up (fun i => gP g i + us i) i ((fun i => gP g i + us i) i + 1)) t (pth ++ [i]) S) i S = B → itN (fun i S => match dts P g xs (fun i => gP g i + us i) i k days with
              | none => S
              | some t => sk P g xs r (k + 1) (up (fun i => gP g i + us i) i ((fun i => gP g i + us i) i + 1)) t (pth ++ [i]) S) (i + 1) S = match dts P g xs (fun i => gP g i + us i) i k days with
              | none => B
              | some t => sk P g xs r (k + 1) (fun j => gP g j + up us i (us i + 1) j) t (pth ++ [i]) B := fun B hB => by
            rw [← hB, ← nx_up]
            rfl
          have estep := estep _ rfl
          rw [estep] at nxt
          generalize itN (fun i S => match dts P g xs (fun i => gP g i + us i) i k days with
            | none => S
            | some t => sk P g xs r (k + 1) (up (fun i => gP g i + us i) i ((fun i => gP g i + us i) i + 1)) t (pth ++ [i]) S) i S = B at hJ nxt tS tO
          cases hdt : dts P g xs (fun i => gP g i + us i) i k days with
          | none =>
            rw [hdt] at nxt
            rw [if_pos (show dayI none = -9 from rfl)]
            exact nxt mi _ (by omega) hJ
          | some t =>
            rw [hdt] at nxt
            have htl := dts_le hdt hds
            rw [if_neg (show ¬ dayI (some t) = -9 from dayI_ne (by omega)), c91r (sh54 L) t54 (by omega) h5 (by omega), ret0, s79_91, c90r (sh60 L) (by rw [xw_ne (by omega)]; exact t60) (by omega) (by omega) (by omega), xw_ne (by omega), t61 i (by omega), ret1, s79_104, nI_1, c91r (sh60 L) (by rw [xw_ne (by omega)]; exact t60) (by omega) (by omega) (by omega), ret0, s79_109, nI_1, show dayI (some t) = nI t from rfl]
            have hm : ∀ a j, a ≠ 55 → a ≠ 61 → xw (xw mi (54 + 1) k (nI i)) (60 + 1) i (nI (us i + 1)) a j = mi a j := fun a j h1 h2 => by rw [xw_ne h2, xw_ne h1]
            refine ih (k + 1) (up us i (us i + 1)) t (pth ++ [i]) B _ d (d + (r + 1) + 2) (by omega) (by omega) (by rw [List.length_append, List.length_singleton, hp]) htl.2 (fun j => ?_) ⟨fun a j ha => ?_, ?_, fun j hj => ?_, ?_, fun j hj => ?_, ?_, tO⟩ _ (fun m2 hJ2 => ?_)
            · have := hus j
              unfold up
              split <;> omega
            · rw [hm a j (by omega) (by omega)]; exact t0 a j ha
            · rw [hm _ _ (by omega) (by omega)]; exact t54
            · rw [xw_ne (by omega), xw_eq, getD_add]
              by_cases hjk : j = k
              · rw [if_pos hjk, if_neg (by omega), if_pos (by omega)]
              · rw [if_neg hjk, if_pos (by omega)]
                exact t55 j (by omega)
            · rw [hm _ _ (by omega) (by omega)]; exact t60
            · rw [xw_eq]
              unfold up
              by_cases hji : j = i
              · rw [if_pos hji, if_pos hji]
              · rw [if_neg hji, if_neg hji, xw_ne (by omega)]
                exact t61 j hj
            · cases B with
              | none =>
                show _ = _
                rw [hm _ _ (by omega) (by omega)]
                exact tS
              | some x => exact ⟨by rw [hm _ _ (by omega) (by omega)]; exact tS.1, stR_congr tS.2 (hm _ _ (by omega) (by omega)) (fun _ => hm _ _ (by omega) (by omega))⟩
            · obtain ⟨w0, w54, w55, w60, w61, wS, wO⟩ := hJ2
              have eu : up us i (us i + 1) i = us i + 1 := by unfold up; rw [if_pos rfl]
              rw [ret0, s79_118, c90r (sh60 L) w60 (by omega) (by omega) (by omega), w61 i (by omega), eu, ret1, s79_131, show nI (us i + 1) - 1 = nI (us i) from nI_sub (a := us i + 1) (b := 1) (by omega), c91r (sh60 L) w60 (by omega) (by omega) (by omega), ret0, s79_136, nI_1]
              have hm2 : ∀ a j, a ≠ 61 → xw m2 (60 + 1) i (nI (us i)) a j = m2 a j := fun a j h1 => xw_ne h1 j
              refine nxt _ _ (by omega) ⟨fun a j ha => ?_, ?_, fun j hj => ?_, ?_, fun j hj => ?_, ?_, wO⟩
              · rw [hm2 a j (by omega)]; exact w0 a j ha
              · rw [hm2 _ _ (by omega)]; exact w54
              · rw [hm2 _ _ (by omega), w55 j (by omega), getD_add, if_pos (by omega)]
              · rw [hm2 _ _ (by omega)]; exact w60
              · rw [xw_eq]
                by_cases hji : j = i
                · rw [if_pos hji, hji]
                · rw [if_neg hji, w61 j hj]
                  unfold up
                  rw [if_neg hji]
              · show skR _ (sk P g xs r (k + 1) (fun j => gP g j + up us i (us i + 1) j) t (pth ++ [i]) B)
                generalize sk P g xs r (k + 1) (fun j => gP g j + up us i (us i + 1) j) t (pth ++ [i]) B = C at wS
                cases C with
                | none =>
                  show _ = _
                  rw [hm2 _ _ (by omega)]
                  exact wS
                | some x => exact ⟨by rw [hm2 _ _ (by omega)]; exact wS.1, stR_congr wS.2 (hm2 _ _ (by omega)) (fun _ => hm2 _ _ (by omega))⟩
      exact main P.length 0 mi _ (by omega) hI
    rw [s79]
    cases S with
    | none =>
      rw [if_pos (show mi 51 7 = -9 from sS)]
      exact go (fun z => by cases z)
    | some x =>
      have sO1 : x.1 ≤ 60 := sO.1
      rw [if_neg (show ¬ mi 51 7 = -9 by rw [sS.1]; exact dayI_ne (by omega)), sS.1]
      by_cases hlt : days < x.1
      · rw [if_pos (nI_lt hlt (by omega))]
        exact go (fun z => by have := of_decide_eq_true z; omega)
      · rw [if_neg (nI_nlt (by omega) (by omega))]
        rw [e, if_pos (show noBd (some x) days = true from decide_eq_true (by omega))] at q
        exact q mi hI
def skV (S : pK) : Int32 := match S with
  | none => -9
  | some x => nI x.1
theorem c77 (hok : okP P) (h2 : mi 38 2 = nI P.length) (h38 : mi 38 3 = nI (gD g)) (hd : gD g < 100) (hb : ∀ i, gW g i < 100 ∧ gP g i < 50) (hpl : ∀ i, i < P.length → plR mi (42 + i) (pl P i) (gW g i) (gP g i) (gE g i)) (hst : stR mi 52 (some xs)) (h5 : xs.length ≤ 5) (hgd : ∀ i, i < xs.length → goodW (xs.getD i 0)) (q : ∀ mi', (∀ a j, a < 51 ∨ 62 ≤ a → mi' a j = mi a j) → skR mi' (sk P g xs xs.length 0 (gP g) 0 [] none) → okK2 (sk P g xs xs.length 0 (gP g) 0 [] none) xs.length → Q (some (.int (skV (sk P g xs xs.length 0 (gP g) 0 [] none)))) (SH L, mi', ml, MR)) : Xm 77 [.ref 51] (SH L, mi, ml, MR) (d + 9) Q := by
  rw [s77, c88 (sh52 L) hst, ret1, s77_11, show szI (some xs) = nI xs.length from rfl, c92 (sh54 L) (by omega) h5, ret0, s77_15]
  refine Eq.mpr (c92 (k := 6) (v := 0) (sh60 L) (by omega) (by omega)) ?_
  rw [ret0, s77_25, c95 (sh56 L), ret0, s77_32]
  have hm0 : ∀ a j, a < 51 ∨ a = 52 ∨ a = 53 ∨ a = 58 ∨ a = 59 ∨ 62 ≤ a → xw (xw (xfill (xw (xfill (xw mi 54 1 (nI xs.length)) (54 + 1) xs.length 0) 60 1 (nI 6)) (60 + 1) 6 0) 56 1 (-1)) 51 7 (-9) a j = mi a j := fun a j ha => by
    rw [xw_ne (by omega), xw_ne (by omega), xfill_ne (by omega), xw_ne (by omega), xfill_ne (by omega), xw_ne (by omega)]
  have e54 : xw (xw (xfill (xw (xfill (xw mi 54 1 (nI xs.length)) (54 + 1) xs.length 0) 60 1 (nI 6)) (60 + 1) 6 0) 56 1 (-1)) 51 7 (-9) 54 1 = nI xs.length := by
    rw [xw_ne (by omega), xw_ne (by omega), xfill_ne (by omega), xw_ne (by omega), xfill_ne (by omega), xw_eq, if_pos rfl]
  have e60 : xw (xw (xfill (xw (xfill (xw mi 54 1 (nI xs.length)) (54 + 1) xs.length 0) 60 1 (nI 6)) (60 + 1) 6 0) 56 1 (-1)) 51 7 (-9) 60 1 = nI 6 := by
    rw [xw_ne (by omega), xw_ne (by omega), xfill_ne (by omega), xw_eq, if_pos rfl]
  have e61 : ∀ i, i < 6 → xw (xw (xfill (xw (xfill (xw mi 54 1 (nI xs.length)) (54 + 1) xs.length 0) 60 1 (nI 6)) (60 + 1) 6 0) 56 1 (-1)) 51 7 (-9) 61 i = 0 := fun i hi => by
    rw [xw_ne (by omega), xw_ne (by omega)]
    unfold xfill
    rw [if_pos ⟨rfl, hi⟩]
  have e51 : xw (xw (xfill (xw (xfill (xw mi 54 1 (nI xs.length)) (54 + 1) xs.length 0) 60 1 (nI 6)) (60 + 1) 6 0) 56 1 (-1)) 51 7 (-9) 51 7 = -9 := by rw [xw_eq, if_pos rfl]
  generalize xw (xw (xfill (xw (xfill (xw mi 54 1 (nI xs.length)) (54 + 1) xs.length 0) 60 1 (nI 6)) (60 + 1) 6 0) 56 1 (-1)) 51 7 (-9) = m1 at hm0 e54 e60 e61 e51
  have hpl1 : ∀ i, i < P.length → plR m1 (42 + i) (pl P i) (gW g i) (gP g i) (gE g i) := fun i hi => by
    have := hpl i hi
    have hP := hok.1
    unfold plR at this ⊢
    simp only [hm0 (42 + i) _ (by omega)]
    exact this
  refine c78 (d := d + 4) hok hd (fun i => by have := hb i; omega) (by rw [hm0 _ _ (by omega)]; exact h2) (by rw [hm0 _ _ (by omega)]; exact h38) hpl1 (fun m2 a1 a2 a3 => ?_)
  rw [ret0, s77_42]
  have hpl2 : ∀ i, i < P.length → plR m2 (42 + i) (pl P i) (gW g i) (gP g i) (gE g i) := fun i hi => by
    have := hpl1 i hi
    have hP := hok.1
    unfold plR at this ⊢
    simp only [a3 (42 + i) _ (by omega) (by omega)]
    exact this
  have hm2 : ∀ a j, a < 51 ∨ a = 52 ∨ a = 53 ∨ 62 ≤ a → m2 a j = mi a j := fun a j ha => by rw [a3 a j (by omega) (by omega), hm0 a j (by omega)]
  refine c79 (g := g) (mi0 := m2) (xs := xs) hok (by rw [hm2 _ _ (by omega)]; exact h2) (by rw [hm2 _ _ (by omega)]; exact h38) hd (fun i => (hb i).2) hpl2 a1 a2 (stR_congr hst (hm2 _ _ (by omega)) (fun _ => hm2 _ _ (by omega))) h5 hgd xs.length 0 (fun _ => 0) 0 [] none m2 (d + 8 - 3 - xs.length) (d + 8) (by omega) (by omega) rfl (by omega) (fun _ => Nat.le_refl _) ⟨fun _ _ _ => rfl, by rw [a3 _ _ (by omega) (by omega)]; exact e54, fun j hj => absurd hj (Nat.not_lt_zero j), by rw [a3 _ _ (by omega) (by omega)]; exact e60, fun i hi => by rw [a3 _ _ (by omega) (by omega)]; exact e61 i hi, by show m2 51 7 = -9; rw [a3 _ _ (by omega) (by omega)]; exact e51, trivial⟩ _ (fun m3 hJ => ?_)
  obtain ⟨w0, w54, w55, w60, w61, wS, wO⟩ := hJ
  have eq0 : (fun i => gP g i + (fun _ => 0 : Nat → Nat) i) = gP g := rfl
  rw [eq0] at wS wO
  have hq := q m3 (fun a j ha => by rw [w0 a j (by omega), hm2 a j (by omega)]) wS wO
  rw [ret0, s77_48]
  generalize sk P g xs xs.length 0 (gP g) 0 [] none = C at wS hq
  cases C with
  | none =>
    rw [show m3 51 7 = -9 from wS]
    exact hq
  | some x =>
    rw [wS.1]
    exact hq
end SEEK2
