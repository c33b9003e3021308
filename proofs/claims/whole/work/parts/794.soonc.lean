/-! soonest: the class -/
section SOONC
variable {L : Nat} {mi : Nat → Nat → Int32} {ml : Nat → Nat → Int64} {d : Nat} {Q : Option Value → xM → Prop} {a i : Nat} {p : Nat × Nat × Nat × Nat} {w0 w q day pod lim : Nat} {e : Bool}
theorem c59_loopb (hS : (SH L)[a]? = some (4, 7)) (h : plR mi a p w0 q e) (hp : okp p) (hd : day < 100) (hw : w < 100) (hl : lim < 200) (hpod : pod < 1000) : ∀ n s v, s + n = lim + 1 → (v = xmk ∨ ∃ z, v = .int z) → X 59 3 [.ref a, .int (nI pod), .int (nI w), .int (nI day), .int (nI lim), .int (nI s), v] [] (SH L, mi, ml, MR) (d + 3) Q = Q (some (.int (dayI (dayN p w pod e day n s)))) (SH L, mi, ml, MR) := by
  have k2 := hp.2.1
  have k3 := hp.2.2.1
  have k4 := hp.2.2.2.1
  intro n
  induction n with
  | zero =>
    intro s v hs hv
    have hx : (if mi a 6 = 0 then (if nI lim < nI s then Q (some (.int (-9))) (SH L, mi, ml, MR) else Xm 55 [.ref a, .int (nI day + nI s)] (SH L, mi, ml, MR) (d + 2) (fun v μ' => X 59 42 [.ref a, .int (nI pod), .int (nI w), .int (nI day), .int (nI lim), .int (nI s), .int (if 0 < (((nI day + nI s) + nI w) - (mi a 1)) then (((nI day + nI s) + nI w) - (mi a 1)) else 0)] (v.toList ++ []) μ' (d + 3) Q)) else Q (some (.int (-9))) (SH L, mi, ml, MR)) = Q (some (.int (-9))) (SH L, mi, ml, MR) := by
      rw [if_pos (nI_lt (a := lim) (b := s) (by omega) (by omega)), ite_self]
    rcases hv with rfl | ⟨z, rfl⟩
    · rw [s59_3 hS]; exact hx
    · rw [s59_3v2 hS]; exact hx
  | succ n ih =>
    intro s v hs hv
    have hx : (if mi a 6 = 0 then (if nI lim < nI s then Q (some (.int (-9))) (SH L, mi, ml, MR) else Xm 55 [.ref a, .int (nI day + nI s)] (SH L, mi, ml, MR) (d + 2) (fun v μ' => X 59 42 [.ref a, .int (nI pod), .int (nI w), .int (nI day), .int (nI lim), .int (nI s), .int (if 0 < (((nI day + nI s) + nI w) - (mi a 1)) then (((nI day + nI s) + nI w) - (mi a 1)) else 0)] (v.toList ++ []) μ' (d + 3) Q)) else Q (some (.int (-9))) (SH L, mi, ml, MR)) = Q (some (.int (dayI (dayN p w pod e day (n + 1) s)))) (SH L, mi, ml, MR) := by
      rw [h.2.2.2.2.2.2]
      by_cases he : e = true
      · rw [bI_t he, if_neg i1_ne0]
        have : ∀ n s, dayN p w pod e day n s = none := by
          intro n
          induction n with
          | zero => intro s; rfl
          | succ n ih => intro s; unfold dayN; rw [if_neg (fun z => by have z1 := z.1; rw [he] at z1; exact Bool.noConfusion z1)]; exact ih _
        rw [this]
        rfl
      · rw [bI_f he, if_pos rfl, if_neg (nI_nlt (by omega) (by omega)), nI_add, c55 hS h hp (by omega), ret1, s59_42 hS, h.1, h.2.1, h.2.2.1, nI_add, nI_tsub (by omega) (by omega), c47 hp.1 (by omega) (by omega) (by omega), ret1, s59_58 hS, nI_1]
        unfold dayN
        have hr : ripeN p.1 (day + s + w - p.2.1) p.2.2.1 ≤ 9 := ripeN_le _ _ _
        by_cases h3 : p.1 = 3 ∧ (day + s) % 2 = 1
        · rw [bI_f (fun z => z h3), if_pos rfl, if_neg (fun z => z.2.1 h3)]
          exact ih (s + 1) _ (by omega) (Or.inr ⟨_, rfl⟩)
        · rw [bI_t h3, if_neg i1_ne0]
          by_cases hq : pod < ripeN p.1 (day + s + w - p.2.1) p.2.2.1
          · rw [if_pos (nI_lt hq (by omega)), if_pos ⟨Bool.eq_false_iff.mpr he, h3, hq⟩]
            rfl
          · rw [if_neg (nI_nlt (by omega) (by omega)), if_neg (fun z => hq z.2.2)]
            exact ih (s + 1) _ (by omega) (Or.inr ⟨_, rfl⟩)
    rcases hv with rfl | ⟨z, rfl⟩
    · rw [s59_3 hS]; exact hx
    · rw [s59_3v2 hS]; exact hx
theorem c59b (hS : (SH L)[a]? = some (4, 7)) (h : plR mi a p w0 q e) (hp : okp p) (hd : day < 100) (hw : w < 100) (hl : lim < 200) (hpod : pod < 1000) : Xm 59 [.ref a, .int (nI pod), .int (nI w), .int (nI day), .int (nI lim)] (SH L, mi, ml, MR) (d + 3) Q = Q (some (.int (dayI (dayN p w pod e day (lim + 1) 0)))) (SH L, mi, ml, MR) := by
  rw [s59 hS]
  exact c59_loopb hS h hp hd hw hl hpod (lim + 1) 0 xmk (by omega) (Or.inl rfl)
theorem c90r {n len : Nat} (hS : isStrip L a n) (h1 : mi a 1 = nI len) (hn : n < 1000) (hl : len ≤ n) (hi : i < len) : Xm 90 [.ref a, .int (nI i)] (SH L, mi, ml, MR) d Q = Q (some (.int (mi (a + 1) i))) (SH L, mi, ml, MR) := by
  rw [s90 hS (fun _ _ h3 => xin_of (nI_nneg (by omega)) h3 (by omega)), h1, if_neg (nI_nneg (by omega)), nI_clamp (by omega), if_pos (nI_lt hi (by omega)), ofNat_nI, if_pos (nI_lt (by omega) (by omega))]
theorem c91r {n len : Nat} {v : Int32} (hS : isStrip L a n) (h1 : mi a 1 = nI len) (hn : n < 1000) (hl : len ≤ n) (hi : i < len) : Xm 91 [.ref a, .int (nI i), .int v] (SH L, mi, ml, MR) d Q = Q none (SH L, xw mi (a + 1) i v, ml, MR) := by
  rw [s91 hS (fun _ _ h3 => xin_of (nI_nneg (by omega)) h3 (by omega)), h1, if_neg (nI_nneg (by omega)), if_pos (nI_lt hi (by omega)), ofNat_nI, if_pos (nI_lt (by omega) (by omega)), nI_clamp (by omega)]
end SOONC
theorem sh54 (L : Nat) : isStrip L 54 5 := ⟨rfl, SH_ref (by decide +kernel), rfl⟩
theorem sh56 (L : Nat) : isStrip L 56 5 := ⟨rfl, SH_ref (by decide +kernel), rfl⟩
theorem sh58 (L : Nat) : isStrip L 58 30 := ⟨rfl, SH_ref (by decide +kernel), rfl⟩
theorem sh60 (L : Nat) : isStrip L 60 6 := ⟨rfl, SH_ref (by decide +kernel), rfl⟩
def dueV (P : pP) (g : pG) (i u : Nat) : Int32 := dayI (dayN (pl P i) (gW g i) (gP g i + u) (gE g i) (gD g) 61 0)
section DUES
variable {P : pP} {g : pG} {L : Nat} {mi : Nat → Nat → Int32} {ml : Nat → Nat → Int64} {d : Nat} {Q : Option Value → xM → Prop}
def dueR (P : pP) (g : pG) (mi : Nat → Nat → Int32) (i u : Nat) : Prop := ∀ i' u', u' < 5 → (i' < i ∨ i' = i ∧ u' < u) → mi 59 (5 * i' + u') = dueV P g i' u'
theorem c78_in {i : Nat} {mi0 : Nat → Nat → Int32} (hok : okP P) (hi : i < P.length) (hd : gD g < 100) (hb : ∀ i, gW g i < 100 ∧ gP g i < 100) (h38 : mi0 38 3 = nI (gD g)) (hpl : ∀ i, i < P.length → plR mi0 (42 + i) (pl P i) (gW g i) (gP g i) (gE g i)) (k : ∀ mi' u3 u4, mi' 58 1 = nI 30 → dueR P g mi' (i + 1) 0 → (∀ a j, a ≠ 58 → a ≠ 59 → mi' a j = mi0 a j) → X 78 13 [.ref 51, .int (nI (i + 1)), .ref (42 + i), u3, u4] [] (SH L, mi', ml, MR) (d + 4) Q) : ∀ m u mi u4, u + m = 5 → mi 58 1 = nI 30 → dueR P g mi i u → (∀ a j, a ≠ 58 → a ≠ 59 → mi a j = mi0 a j) → X 78 35 [.ref 51, .int (nI i), .ref (42 + i), .int (nI u), u4] [] (SH L, mi, ml, MR) (d + 4) Q := by
  have hP := hok.1
  have hS := (shPlant L (i := i) (by omega)).1
  intro m
  induction m with
  | zero =>
    intro u mi u4 hu h58 hdu hs
    rw [s78_35g hS, if_neg (show ¬ nI u < 5 from nI_nlt (b := 5) (by omega) (by omega)), nI_1]
    exact k mi _ _ h58 (fun i' u' h1 h2 => hdu i' u' h1 (by omega)) hs
  | succ m ih =>
    intro u mi u4 hu h58 hdu hs
    have hpl' : plR mi (42 + i) (pl P i) (gW g i) (gP g i) (gE g i) := by
      have := hpl i hi
      unfold plR at this ⊢
      simp only [hs (42 + i) _ (by omega) (by omega)]
      exact this
    have hbi := hb i
    rw [s78_35g hS, if_pos (show nI u < 5 from nI_lt (b := 5) (by omega) (by omega)), s18, hs _ _ (by omega) (by omega), h38, ret1, s78_62g hS, hpl'.2.2.2.2.1, hpl'.2.2.2.2.2.1, nI_add]
    refine Eq.mpr (c59b (d := d) (lim := 60) hS hpl' (hok.2 i hi) hd hbi.1 (by omega) (by omega)) ?_
    rw [ret1, s78_67g hS, show nI i * 5 + nI u = nI (5 * i + u) by rw [show (5 : Int32) = nI 5 from rfl, nI_mul, nI_add, Nat.mul_comm], c91r (sh58 L) h58 (by omega) (by omega) (by omega), ret0, s78_83 hS, nI_1]
    refine ih (u + 1) _ _ (by omega) (by rw [xw_ne (by omega)]; exact h58) (fun i' u' h1 h2 => ?_) (fun a j h1 h2 => by rw [xw_ne h2]; exact hs a j h1 h2)
    rw [xw_eq]
    by_cases he : 5 * i' + u' = 5 * i + u
    · rw [if_pos he, show i' = i by omega, show u' = u by omega]
      rfl
    · rw [if_neg he]
      exact hdu i' u' h1 (by omega)
theorem c78_loop {mi0 : Nat → Nat → Int32} (hok : okP P) (hd : gD g < 100) (hb : ∀ i, gW g i < 100 ∧ gP g i < 100) (h2 : mi0 38 2 = nI P.length) (h38 : mi0 38 3 = nI (gD g)) (hpl : ∀ i, i < P.length → plR mi0 (42 + i) (pl P i) (gW g i) (gP g i) (gE g i)) (k : ∀ mi', mi' 58 1 = nI 30 → dueR P g mi' P.length 0 → (∀ a j, a ≠ 58 → a ≠ 59 → mi' a j = mi0 a j) → Q none (SH L, mi', ml, MR)) : ∀ m i mi u2 u3 u4, i + m = P.length → mi 58 1 = nI 30 → dueR P g mi i 0 → (∀ a j, a ≠ 58 → a ≠ 59 → mi a j = mi0 a j) → X 78 13 [.ref 51, .int (nI i), u2, u3, u4] [] (SH L, mi, ml, MR) (d + 4) Q := by
  have hP := hok.1
  intro m
  induction m with
  | zero =>
    intro i mi u2 u3 u4 hi h58 hdu hs
    rw [s78_13g, s16, hs _ _ (by omega) (by omega), h2, ret1, s78_21g, if_neg (nI_nlt (by omega) (by omega))]
    rw [show i = P.length by omega] at hdu
    exact k mi h58 hdu hs
  | succ m ih =>
    intro i mi u2 u3 u4 hi h58 hdu hs
    have hS := (shPlant L (i := i) (by omega)).1
    rw [s78_13g, s16, hs _ _ (by omega) (by omega), h2, ret1, s78_21g, if_pos (nI_lt (by omega) (by omega)), c15_in hP (by rw [hs _ _ (by omega) (by omega)]; exact h2) (by omega), ret1, s78_32g hS]
    exact c78_in (i := i) hok (by omega) hd hb h38 hpl (fun mi' v3 v4 a1 a2 a3 => ih (i + 1) mi' _ _ _ (by omega) a1 a2 a3) 5 0 mi _ (by omega) h58 hdu hs
theorem c78 (hok : okP P) (hd : gD g < 100) (hb : ∀ i, gW g i < 100 ∧ gP g i < 100) (h2 : mi 38 2 = nI P.length) (h38 : mi 38 3 = nI (gD g)) (hpl : ∀ i, i < P.length → plR mi (42 + i) (pl P i) (gW g i) (gP g i) (gE g i)) (k : ∀ mi', mi' 58 1 = nI 30 → dueR P g mi' P.length 0 → (∀ a j, a ≠ 58 → a ≠ 59 → mi' a j = mi a j) → Q none (SH L, mi', ml, MR)) : Xm 78 [.ref 51] (SH L, mi, ml, MR) (d + 4) Q := by
  have hm : ∀ a j, a ≠ 58 → a ≠ 59 → xfill (xw mi 58 1 (nI 30)) (58 + 1) 30 (-9) a j = mi a j := fun a j h1 h2 => by rw [xfill_ne h2, xw_ne h1]
  rw [s78]
  refine Eq.mpr (c92 (k := 30) (v := -9) (sh58 L) (by omega) (by omega)) ?_
  rw [ret0, s78_11]
  refine c78_loop (mi0 := mi) hok hd hb h2 h38 hpl k P.length 0 _ _ _ _ (by omega) (by rw [xfill_ne (by omega), xw_eq, if_pos rfl]) (fun i' u' h1 h2 => by omega) hm
end DUES
theorem sk_ok {P : pP} {g : pG} {xs : List Int32} {s : Nat} : ∀ r k nx days pth S, pth.length + r = s → days ≤ 60 → okK2 S s → okK2 (sk P g xs r k nx days pth S) s := by
  intro r
  induction r with
  | zero =>
    intro k nx days pth S hp hd hS
    show okK2 (if noBd S days = true then S else some (days, pth)) s
    split
    · exact hS
    · exact ⟨hd, hp⟩
  | succ r ih =>
    intro k nx days pth S hp hd hS
    show okK2 (if noBd S days = true then S else itN _ _ S) s
    split
    · exact hS
    · have : ∀ m, okK2 (itN (fun i S => match dts P g xs nx i k days with
          | none => S
          | some t => sk P g xs r (k + 1) (up nx i (nx i + 1)) t (pth ++ [i]) S) m S) s := by
        intro m
        induction m with
        | zero => exact hS
        | succ m ih2 =>
          show okK2 (match dts P g xs nx m k days with
            | none => itN _ m S
            | some t => sk P g xs r (k + 1) (up nx m (nx m + 1)) t (pth ++ [m]) (itN _ m S)) s
          cases ht : dts P g xs nx m k days with
          | none => exact ih2
          | some t =>
            have := dts_le ht hd
            exact ih _ _ _ _ _ (by rw [List.length_append, List.length_singleton]; omega) this.2 ih2
      exact this P.length
/-! the search -/
def skR (mi : Nat → Nat → Int32) (S : pK) : Prop := match S with
  | none => mi 51 7 = -9
  | some x => mi 51 7 = nI x.1 ∧ stR mi 56 (some (x.2.map nI))
def skI (mi0 : Nat → Nat → Int32) (s : Nat) (us : Nat → Nat) (mi : Nat → Nat → Int32) (k : Nat) (pth : List Nat) (S : pK) : Prop := (∀ a j, a < 51 ∨ a = 52 ∨ a = 53 ∨ a = 58 ∨ a = 59 ∨ 62 ≤ a → mi a j = mi0 a j) ∧ mi 54 1 = nI s ∧ (∀ j, j < k → mi 55 j = nI (pth.getD j 0)) ∧ mi 60 1 = nI 6 ∧ (∀ i, i < 6 → mi 61 i = nI (us i)) ∧ skR mi S ∧ okK2 S s
section SEEK
variable {P : pP} {g : pG} {L : Nat} {mi mi0 : Nat → Nat → Int32} {ml : Nat → Nat → Int64} {d : Nat} {Q : Option Value → xM → Prop} {xs : List Int32} {us : Nat → Nat} {k i days : Nat} {pth : List Nat} {S : pK}
theorem dayI_ne {t : Nat} (h : t ≤ 100) : ¬ nI t = -9 := fun z => nI_nneg (k := t) (by omega) (by rw [z]; decide)
theorem c80 (hok : okP P) (h2 : mi0 38 2 = nI P.length) (h38 : mi0 38 3 = nI (gD g)) (hd : gD g < 100) (hb : ∀ i, gP g i < 50) (hpl : ∀ i, i < P.length → plR mi0 (42 + i) (pl P i) (gW g i) (gP g i) (gE g i)) (h58 : mi0 58 1 = nI 30) (hdu : dueR P g mi0 P.length 0) (hI : skI mi0 xs.length us mi k pth S) (hi : i < P.length) (hu : us i < 5) (hds : days ≤ 60) (hw : wv xs k < 10) : Xm 80 [.ref 51, .int (nI i), .int (nI (wv xs k)), .int (nI days)] (SH L, mi, ml, MR) (d + 2) Q = Q (some (.int (dayI (dts P g xs (fun i => gP g i + us i) i k days)))) (SH L, mi, ml, MR) := by
  have hP := hok.1
  obtain ⟨s0, s54, s55, s60, s61, sS, sO⟩ := hI
  have hS := (shPlant L (i := i) (by omega)).1
  have hpl' : plR mi (42 + i) (pl P i) (gW g i) (gP g i) (gE g i) := by
    have := hpl i hi
    unfold plR at this ⊢
    simp only [s0 (42 + i) _ (by omega)]
    exact this
  have hbi := hb i
  have hdue : mi 59 (5 * i + us i) = dueV P g i (us i) := by rw [s0 _ _ (by omega)]; exact hdu i (us i) hu (by omega)
  have h58' : mi 58 1 = nI 30 := by rw [s0 _ _ (by omega)]; exact h58
  have hwl := wordP_lt (pl P i) (gP g i + us i)
  rw [s80, c15_in hP (by rw [s0 _ _ (by omega)]; exact h2) hi, ret1, s80_8 hS, c90r (sh60 L) s60 (by omega) (by omega) (by omega), s61 i (by omega), ret1, s80_18 hS, if_pos (show nI (us i) < 5 from nI_lt (b := 5) hu (by omega)), c90r (sh60 L) s60 (by omega) (by omega) (by omega), s61 i (by omega), ret1, s80_37 hS, show nI i * 5 + nI (us i) = nI (5 * i + us i) by rw [show (5 : Int32) = nI 5 from rfl, nI_mul, nI_add, Nat.mul_comm], c90r (sh58 L) h58' (by omega) (by omega) (by omega), hdue, ret1, s80_41 hS]
  unfold dts dueV
  show _ = Q (some (.int (dayI (if gP g i + us i < 9 ∧ wordP (pl P i) (gP g i + us i) = wv xs k then dayN (pl P i) (gW g i) (gP g i + us i) (gE g i) (gD g) (61 - days) days else none)))) _
  have hthen := dayN_then (p := pl P i) (w := gW g i) (pod := gP g i + us i) (e := gE g i) (day := gD g) hds
  cases hdn : dayN (pl P i) (gW g i) (gP g i + us i) (gE g i) (gD g) 61 0 with
  | none =>
    rw [hdn] at hthen
    rw [if_pos (show dayI none = -9 from rfl), hthen, ite_self]
    rfl
  | some due =>
    rw [hdn] at hthen
    have hle := dayN_le _ _ _ hdn
    have hmay := (dayN_some _ _ _ hdn).1
    have hr9 : ripeP (pl P i) (gW g i) (gD g + due) ≤ 9 := ripeN_le _ _ _
    have h9 : gP g i + us i < 9 := by have := hmay.2.2; omega
    have hthen : dayN (pl P i) (gW g i) (gP g i + us i) (gE g i) (gD g) (61 - days) days = thenN (pl P i) (gD g) days due := hthen
    rw [if_neg (show ¬ dayI (some due) = -9 from dayI_ne (by omega)), hpl'.2.2.2.2.2.1, c90r (sh60 L) s60 (by omega) (by omega) (by omega), s61 i (by omega), ret1, s80_75 hS, nI_add, c53 hS hpl' (hok.2 i hi) (by omega), ret1, s80_79 hS]
    by_cases hx : wordP (pl P i) (gP g i + us i) = wv xs k
    · rw [if_pos (congrArg nI hx), if_pos (show gP g i + us i < 9 ∧ wordP (pl P i) (gP g i + us i) = wv xs k from ⟨h9, hx⟩), s18, s0 _ _ (by omega), h38, ret1, s80_103 hS, show dayI (some due) = nI due from rfl, nI_max (by omega) (by omega), nI_add, c55 hS hpl' (hok.2 i hi) (by omega), ret1, s80_109 hS, hthen, nI_1]
      unfold thenN
      by_cases hc : (pl P i).1 = 3 ∧ (gD g + max days due) % 2 = 1
      · rw [bI_f (fun z => z hc), if_pos rfl, if_pos hc]
        by_cases h60 : 60 < max days due + 1
        · rw [if_pos (show (60 : Int32) < nI (max days due + 1) from nI_lt (a := 60) h60 (by omega)), if_pos h60]
          rfl
        · rw [if_neg (show ¬ (60 : Int32) < nI (max days due + 1) from nI_nlt (a := 60) (by omega) (by omega)), if_neg h60]
          rfl
      · rw [bI_t hc, if_neg i1_ne0, if_neg hc]
        by_cases h60 : 60 < max days due
        · rw [if_pos (show (60 : Int32) < nI (max days due) from nI_lt (a := 60) h60 (by omega)), if_pos h60]
          rfl
        · rw [if_neg (show ¬ (60 : Int32) < nI (max days due) from nI_nlt (a := 60) (by omega) (by omega)), if_neg h60]
          rfl
    · rw [if_neg (fun z => hx (nI_inj (by omega) (by omega) z)), if_neg (fun z => hx z.2)]
      rfl
end SEEK
