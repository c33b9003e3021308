/-! digest -/
def d1 (f : Nat → Int32) (h : Int64) : Nat → Int64
  | 0 => h
  | n + 1 => 31 * d1 f h n + (f n).toInt64
def d2 (F : Nat → Nat → Int32) (m : Nat) (h : Int64) : Nat → Int64
  | 0 => h
  | n + 1 => d1 (F n) (d2 F m h n) m
def lenO (x : Option (List Int32)) : Nat := match x with
  | none => 0
  | some xs => xs.length
def getO (x : Option (List Int32)) (j : Nat) : Int32 := match x with
  | none => 0
  | some xs => xs.getD j 0
def d3 (Z : Nat → Option (List Int32)) (h : Int64) : Nat → Int64
  | 0 => h
  | n + 1 => d1 (getO (Z n)) (31 * d3 Z h n + (szI (Z n)).toInt64) (lenO (Z n))
theorem neg1_lt {n : Nat} (h : n < 2 ^ 31) : ¬ nI n < -1 := fun z => by
  rw [Int32.lt_iff_toInt_lt, nI_toInt h] at z
  have : (-1 : Int32).toInt = -1 := rfl
  omega
section DIGEST
variable {R T : pR} {P : pP} {D : List Nat} {K : Nat → Option (List Nat)} {S : pS} {L : Nat} {mi : Nat → Nat → Int32} {ml : Nat → Nat → Int64} {d : Nat} {Q : Option Value → xM → Prop} {a n cap k : Nat}
theorem c85_in {Z : Option (List Int32)} {h0 hh : Int64} {x5 : Int32} {r6 : Nat} (hA : isShelf L a n) (hS : isStrip L r6 cap) (hcap : cap < 1000) (hst : stR mi r6 Z) (hlen : ∀ xs, Z = some xs → xs.length ≤ cap) : X 85 49 [.ref a, .long h0, xmk, .long hh, xmk, .int x5, .ref r6, .int 0] [] (SH L, mi, ml, MR) (d + 1) Q = X 85 5 [.ref a, .long h0, xmk, .long (d1 (getO Z) hh (lenO Z)), xmk, .int (x5 + 1), .ref r6, .int (nI (lenO Z))] [] (SH L, mi, ml, MR) (d + 1) Q := by
  cases Z with
  | none =>
    rw [s85_49 hA hS, c88 hS hst, ret1, s85_61 hA hS, if_neg (show ¬ (0 : Int32) < szI none by decide)]
    rfl
  | some xs =>
    have hl := hlen xs rfl
    have hlp := X_loop (mid := 85) (pc := 49) (d := d + 1) (Q := Q) (fun j => [.ref a, .long h0, xmk, .long (d1 (getO (some xs)) hh j), xmk, .int x5, .ref r6, .int (nI j)]) (fun j => (SH L, mi, ml, MR)) xs.length (fun j hj => by
      rw [s85_49 hA hS, c88 hS hst, ret1, s85_61 hA hS, if_pos (show nI j < szI (some xs) from nI_lt hj (by omega)), c90 hS hst hcap hl (by omega), ret1, s85_76 hA hS, nI_1]
      rfl)
    refine hlp.trans ?_
    rw [s85_49 hA hS, c88 hS hst, ret1, s85_61 hA hS, if_neg (show ¬ nI xs.length < szI (some xs) from nI_nlt (by omega) (by omega))]
    rfl
theorem c85 {h0 : Int64} (h : okShelf L a n cap) (hn0 : 0 < n) (hn : n < 1000) (hcap : cap < 1000) (Z : Nat → Option (List Int32)) (hst : ∀ k, k < n → stR mi (a + 2 + 2 * k) (Z k) ∧ ∀ xs, Z k = some xs → xs.length ≤ cap) : Xm 85 [.ref a, .long h0] (SH L, mi, ml, MR) (d + 1) Q = Q (some (.long (d3 Z h0 n))) (SH L, mi, ml, MR) := by
  rw [s85 h.1]
  have hl := X_loop (mid := 85) (pc := 5) (d := d + 1) (Q := Q) (fun k => [.ref a, .long h0, xmk, .long (d3 Z h0 k), xmk, .int (nI k), if k = 0 then xmk else .ref (a + 2 + 2 * (k - 1)), if k = 0 then xmk else .int (nI (lenO (Z (k - 1))))]) (fun k => (SH L, mi, ml, MR)) n (fun k hk => by
    have hS := (h.2 k hk).2
    rw [s85_5g h.1 hS (fun _ => xin_nI hk (by omega)) (fun _ => by rw [nI_clamp (by omega)]; exact (h.2 k hk).1), ofNat_nI, if_pos (nI_lt hk (by omega)), c88 hS (hst k hk).1, ret1, s85_43g h.1 hS, c85_in h.1 hS hcap (hst k hk).1 (hst k hk).2, nI_1]
    simp only [if_neg (Nat.succ_ne_zero k), Nat.add_sub_cancel]
    rfl)
  refine hl.trans ?_
  rw [s85_5g (rb21 := a + 2 + 2 * 0) h.1 (h.2 0 hn0).2 (fun z => absurd z (by rw [ofNat_nI]; exact nI_nlt (by omega) (by omega))) (fun z => absurd z (by rw [ofNat_nI]; exact nI_nlt (by omega) (by omega))), ofNat_nI, if_neg (nI_nlt (by omega) (by omega))]
def fV (P : pP) (g : pG) (i f : Nat) : Int32 := featN (pl P i) (gW g i) (gP g i) (gE g i) (gD g) f
def kV (K : Nat → Option (List Nat)) (k : Nat) : Int32 := szI ((K k).map (fun D => D.map nI))
def digV (R T : pR) (P : pP) (D : List Nat) (K : Nat → Option (List Nat)) : Int64 := d3 T (d3 R (d1 (kV K) (d2 (fV P (rep P D)) 8 (d1 (cntV R T P D K) 17 11) P.length) 3) 6) 4
theorem c140 (hok : ok P D K) (h : Cst R T P D K S mi ml) : Xm 140 [.ref 2] (SH L, mi, ml, MR) (d + 6) Q = Q (some (.long (digV R T P D K))) (SH L, mi, ml, MR) := by
  have hP := hok.1.1
  have hD := hok.2.1.1
  have hb := rep_le P D
  unfold digV
  rw [s140]
  have l1 := X_loop (mid := 140) (pc := 6) (d := d + 6) (Q := Q) (fun k => [.ref 2, .long (d1 (cntV R T P D K) 17 k), xmk, .int (nI k), xmk, xmk]) (fun k => (SH L, mi, ml, MR)) 11 (fun k hk => by
    rw [s140_6, if_neg (show ¬ (10 : Int32) < nI k from nI_nlt (a := 10) (by omega) (by omega)), c137 hok h hk, ret1, s140_22, nI_1]
    rfl)
  refine l1.trans ?_
  rw [s140_6, if_pos (by decide)]
  generalize d1 (cntV R T P D K) 17 11 = h1
  have l2 := X_loop (mid := 140) (pc := 33) (d := d + 6) (Q := Q) (fun k => [.ref 2, .long (d2 (fV P (rep P D)) 8 h1 k), xmk, .int (nI k), if k = 0 then xmk else .ref (42 + (k - 1)), if k = 0 then xmk else .int (nI 8)]) (fun k => (SH L, mi, ml, MR)) P.length (fun k hk => by
    have hS := (shPlant L (i := k) (by omega)).1
    have hbk := hb.2 k
    rw [s140_33g, s16, ret1, s140_41g, h.2.2.1.1, if_pos (nI_lt hk (by omega)), c15_in hP h.2.2.1.1 hk, ret1, s140_52g hS]
    have l3 := X_loop (mid := 140) (pc := 57) (d := d + 6) (Q := Q) (fun j => [.ref 2, .long (d1 (fV P (rep P D) k) (d2 (fV P (rep P D)) 8 h1 k) j), xmk, .int (nI k), .ref (42 + k), .int (nI j)]) (fun k => (SH L, mi, ml, MR)) 8 (fun j hj => by
      rw [s140_57 hS, if_neg (show ¬ (7 : Int32) < nI j from nI_nlt (a := 7) (by omega) (by omega)), s18, h.2.2.1.2.1, ret1, s140_85 hS, c60 hj hS (cG_pl h.2.2.1 hk) (hok.1.2 k hk) (by omega) (by omega), ret1, s140_88 hS, nI_1]
      rfl)
    refine l3.trans ?_
    rw [s140_57 hS, if_pos (by decide), nI_1]
    simp only [if_neg (Nat.succ_ne_zero k), Nat.add_sub_cancel]
    rfl)
  refine l2.trans ?_
  rw [s140_33g, s16, ret1, s140_41g, h.2.2.1.1, if_neg (nI_nlt (by omega) (by omega))]
  have l4 : ∀ (h2 : Int64) (u4 u5 : Value), X 140 105 [.ref 2, .long h2, xmk, .int 0, u4, u5] [] (SH L, mi, ml, MR) (d + 6) Q = Q (some (.long (d3 T (d3 R (d1 (kV K) h2 3) 6) 4))) (SH L, mi, ml, MR) := by
    intro h2 u4 u5
    have l5 := X_loop (mid := 140) (pc := 105) (d := d + 6) (Q := Q) (fun k => [.ref 2, .long (d1 (kV K) h2 k), xmk, .int (nI k), if k = 0 then u4 else .ref (27 + 2 + 2 * (k - 1)), u5]) (fun k => (SH L, mi, ml, MR)) 3 (fun k hk => by
      rw [s140_105g, if_pos (show nI k < 3 from nI_lt (b := 3) hk (by omega)), c82 (shKept L) (by omega) hk, ret1, s140_118g ((shKept L).2 k hk).2, c88 ((shKept L).2 k hk).2 (h.2.2.2.1 k hk), ret1, s140_139g, nI_1]
      simp only [if_neg (Nat.succ_ne_zero k), Nat.add_sub_cancel]
      rfl)
    refine l5.trans ?_
    rw [s140_105g, if_neg (by decide), c85 (shRows L) (by omega) (by omega) (by omega) R (fun k hk => h.1 k hk), ret1, s140_160g, c85 (shTexts L) (by omega) (by omega) (by omega) T (fun k hk => h.2.1 k hk), ret1, s140_163g]
  rw [l4]
theorem c237_rows {hh : Int64} (hk : k < 6) (h : mR R mi) : X 237 151 [.ref 68, .long hh, xmk, .int (nI k), .int 0] [] (SH L, mi, ml, MR) d Q = X 237 128 [.ref 68, .long (d1 (getO (R k)) hh (lenO (R k))), xmk, .int (nI (k + 1)), .int (nI (lenO (R k)))] [] (SH L, mi, ml, MR) d Q := by
  obtain ⟨h1, h2⟩ := h k hk
  have hx : xin (nI k) 6 = true := xin_nI hk (by omega)
  cases hR : R k with
  | none =>
    rw [hR] at h1
    rw [s237_151 hx (fun z => absurd z (by rw [nI_clamp (by omega), h1]; decide)), nI_clamp (by omega), h1, if_neg (by decide), nI_1]
    rfl
  | some xs =>
    obtain ⟨h3, h4⟩ := h2 xs hR
    rw [hR] at h1
    have e : ∀ j, (40 * nI k) + nI j = nI (40 * k + j) := fun j => by rw [show (40 : Int32) = nI 40 from rfl, nI_mul, nI_add]
    have hlp := X_loop (mid := 237) (pc := 151) (d := d) (Q := Q) (fun j => [.ref 68, .long (d1 (getO (some xs)) hh j), xmk, .int (nI k), .int (nI j)]) (fun j => (SH L, mi, ml, MR)) xs.length (fun j hj => by
      rw [s237_151 hx (fun _ => by rw [e]; exact xin_nI (by omega) (by omega)), nI_clamp (by omega), h1, if_pos (show nI j < szI (some xs) from nI_lt hj (by omega)), e, nI_clamp (by omega), h4 j hj, nI_1]
      rfl)
    refine hlp.trans ?_
    rw [s237_151 hx (fun z => absurd z (by rw [nI_clamp (by omega), h1]; exact nI_nlt (by omega) (by omega))), nI_clamp (by omega), h1, if_neg (show ¬ nI xs.length < szI (some xs) from nI_nlt (by omega) (by omega)), nI_1]
    rfl
theorem c237_texts {hh : Int64} (hk : k < 4) (h : mT T mi) : X 237 218 [.ref 68, .long hh, xmk, .int (nI k), .int 0] [] (SH L, mi, ml, MR) d Q = X 237 196 [.ref 68, .long (d1 (getO (T k)) hh (lenO (T k))), xmk, .int (nI (k + 1)), .int (nI (lenO (T k)))] [] (SH L, mi, ml, MR) d Q := by
  obtain ⟨h1, h2⟩ := h k hk
  have hx : xin (nI k) 4 = true := xin_nI hk (by omega)
  cases hR : T k with
  | none =>
    rw [hR] at h1
    rw [s237_218 hx (fun z => absurd z (by rw [nI_clamp (by omega), h1]; decide)), nI_clamp (by omega), h1, if_neg (by decide), nI_1]
    rfl
  | some xs =>
    obtain ⟨h3, h4⟩ := h2 xs hR
    rw [hR] at h1
    have e : ∀ j, (60 * nI k) + nI j = nI (60 * k + j) := fun j => by rw [show (60 : Int32) = nI 60 from rfl, nI_mul, nI_add]
    have hlp := X_loop (mid := 237) (pc := 218) (d := d) (Q := Q) (fun j => [.ref 68, .long (d1 (getO (some xs)) hh j), xmk, .int (nI k), .int (nI j)]) (fun j => (SH L, mi, ml, MR)) xs.length (fun j hj => by
      rw [s237_218 hx (fun _ => by rw [e]; exact xin_nI (by omega) (by omega)), nI_clamp (by omega), h1, if_pos (show nI j < szI (some xs) from nI_lt hj (by omega)), e, nI_clamp (by omega), h4 j hj, nI_1]
      rfl)
    refine hlp.trans ?_
    rw [s237_218 hx (fun z => absurd z (by rw [nI_clamp (by omega), h1]; exact nI_nlt (by omega) (by omega))), nI_clamp (by omega), h1, if_neg (show ¬ nI xs.length < szI (some xs) from nI_nlt (by omega) (by omega)), nI_1]
    rfl
theorem c237 (hok : ok P D K) (h : Mst R T P D K S mi ml) : Xm 237 [.ref 68] (SH L, mi, ml, MR) (d + 4) Q = Q (some (.long (digV R T P D K))) (SH L, mi, ml, MR) := by
  have hP := hok.1.1
  have hD := hok.2.1.1
  have hb := rep_le P D
  have hg := mG_g h.2.2.1
  unfold digV
  rw [s237]
  have l1 := X_loop (mid := 237) (pc := 6) (d := d + 4) (Q := Q) (fun k => [.ref 68, .long (d1 (cntV R T P D K) 17 k), xmk, .int (nI k), xmk]) (fun k => (SH L, mi, ml, MR)) 11 (fun k hk => by
    rw [s237_6, if_pos (show nI k < 11 from nI_lt (b := 11) hk (by omega)), c233 hok h hk, ret1, s237_22, nI_1]
    rfl)
  refine l1.trans ?_
  rw [s237_6, if_neg (by decide)]
  generalize d1 (cntV R T P D K) 17 11 = h1
  have l2 := X_loop (mid := 237) (pc := 33) (d := d + 4) (Q := Q) (fun k => [.ref 68, .long (d2 (fV P (rep P D)) 8 h1 k), xmk, .int (nI k), if k = 0 then xmk else .int (nI 8)]) (fun k => (SH L, mi, ml, MR)) P.length (fun k hk => by
    have hbk := hb.2 k
    rw [s237_33g, h.2.2.1.1, if_pos (nI_lt hk (by omega))]
    have l3 := X_loop (mid := 237) (pc := 44) (d := d + 4) (Q := Q) (fun j => [.ref 68, .long (d1 (fV P (rep P D) k) (d2 (fV P (rep P D)) 8 h1 k) j), xmk, .int (nI k), .int (nI j)]) (fun k => (SH L, mi, ml, MR)) 8 (fun j hj => by
      rw [s237_44, if_pos (show nI j < 8 from nI_lt (b := 8) hj (by omega)), c184 hj (by omega) hg (mG_pl h.2.2.1 hk) (hok.1.2 k hk) (by omega) (by omega), ret1, s237_63, nI_1]
      rfl)
    refine l3.trans ?_
    rw [s237_44, if_neg (by decide), nI_1]
    simp only [if_neg (Nat.succ_ne_zero k)]
    rfl)
  refine l2.trans ?_
  rw [s237_33g, h.2.2.1.1, if_neg (nI_nlt (by omega) (by omega))]
  have l7 : ∀ (h3 : Int64) (u : Value), X 237 196 [.ref 68, .long h3, xmk, .int 0, u] [] (SH L, mi, ml, MR) (d + 4) Q = Q (some (.long (d3 T h3 4))) (SH L, mi, ml, MR) := by
    intro h3 u
    have l5 := X_loop (mid := 237) (pc := 196) (d := d + 4) (Q := Q) (fun k => [.ref 68, .long (d3 T h3 k), xmk, .int (nI k), if k = 0 then u else .int (nI (lenO (T (k - 1))))]) (fun k => (SH L, mi, ml, MR)) 4 (fun k hk => by
      rw [s237_196g (fun _ => xin_nI hk (by omega)), if_pos (show nI k < 4 from nI_lt (b := 4) hk (by omega)), nI_clamp (by omega), (h.2.1 k hk).1, c237_texts hk h.2.1]
      simp only [if_neg (Nat.succ_ne_zero k), Nat.add_sub_cancel]
      rfl)
    refine l5.trans ?_
    rw [s237_196g (fun z => absurd z (by decide)), if_neg (by decide)]
  have l6 : ∀ (h3 : Int64) (u : Value), X 237 128 [.ref 68, .long h3, xmk, .int 0, u] [] (SH L, mi, ml, MR) (d + 4) Q = Q (some (.long (d3 T (d3 R h3 6) 4))) (SH L, mi, ml, MR) := by
    intro h3 u
    have l5 := X_loop (mid := 237) (pc := 128) (d := d + 4) (Q := Q) (fun k => [.ref 68, .long (d3 R h3 k), xmk, .int (nI k), if k = 0 then u else .int (nI (lenO (R (k - 1))))]) (fun k => (SH L, mi, ml, MR)) 6 (fun k hk => by
      rw [s237_128g (fun _ => xin_nI hk (by omega)), if_pos (show nI k < 6 from nI_lt (b := 6) hk (by omega)), nI_clamp (by omega), (h.1 k hk).1, c237_rows hk h.1]
      simp only [if_neg (Nat.succ_ne_zero k), Nat.add_sub_cancel]
      rfl)
    refine l5.trans ?_
    rw [s237_128g (fun z => absurd z (by decide)), if_neg (by decide)]
    exact l7 _ _
  have l4 : ∀ (h2 : Int64) (u4 : Value), X 237 80 [.ref 68, .long h2, xmk, .int 0, u4] [] (SH L, mi, ml, MR) (d + 4) Q = Q (some (.long (d3 T (d3 R (d1 (kV K) h2 3) 6) 4))) (SH L, mi, ml, MR) := by
    intro h2 u4
    have l5 := X_loop (mid := 237) (pc := 80) (d := d + 4) (Q := Q) (fun k => [.ref 68, .long (d1 (kV K) h2 k), xmk, .int (nI k), u4]) (fun k => (SH L, mi, ml, MR)) 3 (fun k hk => by
      have e : (616 * nI k) + 615 = nI (616 * k + 615) := by rw [show (616 : Int32) = nI 616 from rfl, show (615 : Int32) = nI 615 from rfl, nI_mul, nI_add]
      obtain ⟨k1, k2⟩ := h.2.2.2.1 k hk
      rw [s237_80g (fun _ => xin_nI hk (by omega)) (fun _ _ => by rw [e]; exact xin_nI (by omega) (by omega)), if_pos (show nI k < 3 from nI_lt (b := 3) hk (by omega)), nI_clamp (by omega), k1, e, nI_clamp (by omega), nI_1]
      cases hK : K k with
      | none =>
        rw [if_pos (show bI ((none : Option (List Nat)).isSome = true) = 0 from rfl)]
        show X 237 80 [.ref 68, .long (31 * d1 (kV K) h2 k + (-1 : Int32).toInt64), _, _, _] _ _ _ _ = X 237 80 [.ref 68, .long (31 * d1 (kV K) h2 k + (kV K k).toInt64), _, _, _] _ _ _ _
        unfold kV
        rw [hK]
        rfl
      | some E =>
        rw [if_neg (show ¬ bI ((some E).isSome = true) = 0 by rw [bI_t (show (some E).isSome = true from rfl)]; decide), (k2 E hK).1]
        show X 237 80 [.ref 68, .long (31 * d1 (kV K) h2 k + (nI E.length).toInt64), _, _, _] _ _ _ _ = X 237 80 [.ref 68, .long (31 * d1 (kV K) h2 k + (kV K k).toInt64), _, _, _] _ _ _ _
        have ek : kV K k = nI E.length := by
          unfold kV
          rw [hK]
          exact congrArg nI (List.length_map _)
        rw [ek])
    refine l5.trans ?_
    rw [s237_80g (fun z => absurd z (by decide)) (fun z => absurd z (by decide)), if_neg (by decide)]
    exact l6 _ _
  exact l4 _ _
end DIGEST
theorem op_digest : OpL 140 237 [] := op_of fun R T P D K S hok => ex_ret (.long (digV R T P D K)) ⟨_, rfl⟩ hok
  (fun L mi ml Q h k => by rw [c140 (d := 93) hok h]; exact k mi ml h sameM_rf) (fun L mi ml Q h k => by rw [c237 (d := 95) hok h]; exact k mi ml h sameC_rf)
