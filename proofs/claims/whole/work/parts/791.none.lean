/-! ways, none -/
def ftR (way : Nat → Nat) : Nat → Nat → (Nat → Bool) → Nat → Bool
  | 0, _, f => f
  | r + 1, k, f => ftR way r (k + 1) (up f (way k) true)
theorem ft_eq {n s c : Nat} : ∀ r k f, k + r = s → ftC n r f (c % n ^ r) = ftR (dg n s c) r k f := by
  intro r
  induction r with
  | zero => intro k f _; rfl
  | succ r ih =>
    intro k f hk
    have e := dg_first (n := n) (c := c) hk
    show ftC n r (up f (c % n ^ (r + 1) / n ^ r) true) (c % n ^ (r + 1) % n ^ r) = ftR (dg n s c) r (k + 1) (up f (dg n s c k) true)
    rw [e.1, e.2]
    exact ih (k + 1) _ (by omega)
theorem ftR_out {way : Nat → Nat} {n : Nat} (hw : ∀ j, way j < n) : ∀ r k f, (∀ i, n ≤ i → f i = false) → ∀ i, n ≤ i → ftR way r k f i = false := by
  intro r
  induction r with
  | zero => intro k f h; exact h
  | succ r ih =>
    intro k f h
    refine ih (k + 1) _ (fun i hi => ?_)
    have := hw k
    unfold up
    rw [if_neg (by omega)]
    exact h i hi
theorem hd_keep {n : Nat} : ∀ r k h c, 0 < k → hdC n r k h c = h := by
  intro r
  induction r with
  | zero => intro k h c _; rfl
  | succ r ih =>
    intro k h c hk
    show hdC n r (k + 1) (if k = 0 then _ else h) _ = h
    rw [if_neg (by omega)]
    exact ih (k + 1) h _ (by omega)
theorem full_and : ∀ n : Fin 7, ∀ m : Fin 64, m.val < 2 ^ n.val → ((1 <<< (nI n.val &&& 31)) - 1) &&& nI m.val = nI m.val := by decide +kernel
theorem mask_full {f : Nat → Bool} {n : Nat} (hn : n ≤ 6) (hf : ∀ i, n ≤ i → f i = false) : ((1 <<< (nI n &&& 31)) - 1) &&& nI (maskN f 6) = nI (maskN f 6) := by
  have e := maskN_ext (f := f) (n := n) (6 - n) hf
  rw [show n + (6 - n) = 6 by omega] at e
  have h1 := maskN_lt f n
  have h2 := maskN_lt f 6
  exact full_and ⟨n, by omega⟩ ⟨maskN f 6, h2⟩ (by show maskN f 6 < 2 ^ n; rw [e]; exact h1)
def A0 : pW := (0, 0, 0, -9)
theorem cod_many {P : pP} {g : pG} {xs : List Int32} {r k : Nat} {nx : Nat → Nat} {f : Nat → Bool} {h : Int32} : ∀ c, (itN (codF P g xs r k nx f h) c A0).1 ≤ c := by
  intro c
  have := itN_le (F := codF P g xs r k nx f h) (c := 1) (fun i A => by
    unfold codF
    split
    · exact Nat.le_refl _
    · exact Nat.le_add_right _ _) c A0
  have e : A0.1 = 0 := rfl
  omega
theorem cod_zero {P : pP} {g : pG} {xs : List Int32} {r k : Nat} {nx : Nat → Nat} {f : Nat → Bool} {h : Int32} : ∀ c, (itN (codF P g xs r k nx f h) c A0).1 = 0 → itN (codF P g xs r k nx f h) c A0 = A0 := by
  intro c
  induction c with
  | zero => intro _; rfl
  | succ c ih =>
    show (codF P g xs r k nx f h c (itN (codF P g xs r k nx f h) c A0)).1 = 0 → codF P g xs r k nx f h c (itN (codF P g xs r k nx f h) c A0) = A0
    unfold codF
    split
    · intro z
      exact absurd z (Nat.succ_ne_zero _)
    · exact ih
def m4W (mi : Nat → Nat → Int32) (v x : Int32) : Nat → Nat → Int32 := xw (xw (xw (xw mi 68 28 v) 68 25 (((xw mi 68 28 v) 68 25) + 1)) 68 26 (((xw (xw mi 68 28 v) 68 25 (((xw mi 68 28 v) 68 25) + 1)) 68 26) &&& x)) 68 27 (((xw (xw (xw mi 68 28 v) 68 25 (((xw mi 68 28 v) 68 25) + 1)) 68 26 (((xw (xw mi 68 28 v) 68 25 (((xw mi 68 28 v) 68 25) + 1)) 68 26) &&& x)) 68 27) ||| x)
theorem m4W_at (mi : Nat → Nat → Int32) (v x : Int32) : m4W mi v x 68 25 = mi 68 25 + 1 ∧ m4W mi v x 68 26 = mi 68 26 &&& x ∧ m4W mi v x 68 27 = mi 68 27 ||| x ∧ m4W mi v x 68 28 = v ∧ (∀ a j, (a = 68 → j < 25) → m4W mi v x a j = mi a j) := by
  unfold m4W
  refine ⟨by simp [xw], by simp [xw], by simp [xw], by simp [xw], fun a j h => ?_⟩
  unfold xw
  rw [if_neg (fun z => by have := h z.1; omega), if_neg (fun z => by have := h z.1; omega), if_neg (fun z => by have := h z.1; omega), if_neg (fun z => by have := h z.1; omega)]
def mcR (mi : Nat → Nat → Int32) (full : Int32) (B : pW) : Prop := mi 68 25 = nI B.1 ∧ mi 68 26 = (if B.1 = 0 then full else B.2.1) ∧ mi 68 27 = B.2.2.1 ∧ mi 68 28 = B.2.2.2
def sameW (mi mi' : Nat → Nat → Int32) : Prop := ∀ a j, a ≠ 83 → a ≠ 85 → (a = 68 → j < 25) → mi' a j = mi a j
section NONE
variable {R : pR} {P : pP} {g : pG} {L : Nat} {mi : Nat → Nat → Int32} {ml : Nat → Nat → Int64} {d : Nat} {Q : Option Value → xM → Prop} {xs : List Int32} {r : Nat}
theorem c207 {s : Nat} (h4 : mi 68 4 = nI P.length) (hs : s < 1000) : Xm 207 [.ref 68, .int (nI s)] (SH L, mi, ml, MR) d Q = Q (some (.int (nI (P.length ^ s)))) (SH L, mi, ml, MR) := by
  rw [s207]
  have hl := X_loop (mid := 207) (pc := 4) (d := d) (Q := Q) (fun k => [.ref 68, .int (nI s), .int (nI (P.length ^ k)), .int (nI k)]) (fun _ => (SH L, mi, ml, MR)) s (fun k hk => by
    rw [s207_4, if_pos (nI_lt hk (by omega)), h4, nI_mul, nI_1]
    rfl)
  refine hl.trans ?_
  rw [s207_4, if_neg (nI_nlt (by omega) (by omega))]
theorem c210_62 {x2 x3 : Int32} {way : Nat → Nat} (hr : r < 6) (h69 : mi 69 r = nI xs.length) (hs5 : xs.length ≤ 5) (h83 : ∀ j, j < xs.length → mi 83 j = nI (way j)) (hw : ∀ j, way j < 6) : ∀ m j f, j + m = xs.length → X 210 62 [.ref 68, .int (nI r), .int x2, .int x3, .int (nI (maskN f 6)), .int (nI j)] [] (SH L, mi, ml, MR) d Q = X 210 62 [.ref 68, .int (nI r), .int x2, .int x3, .int (nI (maskN (ftR way m j f) 6)), .int (nI xs.length)] [] (SH L, mi, ml, MR) d Q := by
  intro m
  induction m with
  | zero => intro j f hj; rw [show j = xs.length by omega]; rfl
  | succ m ih =>
    intro j f hj
    have hlt : nI j < nI xs.length := nI_lt (by omega) (by omega)
    rw [s210_62 (xin_nI hr (by omega)) (fun _ => xin_nI (by omega) (by omega)) (fun z => absurd (by rw [nI_clamp (by omega), h69]; exact hlt) z), nI_clamp (by omega), h69, if_pos hlt, nI_clamp (by omega), h83 j (by omega), or_n _ (hw j), nI_1]
    exact ih (j + 1) _ (by omega)
theorem c210_loop {mi0 : Nat → Nat → Int32} (hok : okP P) (hn : 0 < P.length) (hr : r < 6) (hR : R r = some xs) (hs5 : xs.length ≤ 5) (hgd : ∀ i, i < xs.length → goodW (xs.getD i 0)) (hd : gD g < 100) (hb : ∀ i, gW g i < 100 ∧ gP g i < 100) (hRR : mR R mi0) (h4 : mi0 68 4 = nI P.length) (hg : mgR mi0 g) (hm : ∀ i, i < P.length → mpR mi0 i (pl P i)) (q : ∀ mi', sameW mi0 mi' → mi' 68 25 = nI (itN (codF P g xs xs.length 0 (gP g) (fun _ => false) (-9)) (P.length ^ xs.length) A0).1 → mi' 68 26 = (itN (codF P g xs xs.length 0 (gP g) (fun _ => false) (-9)) (P.length ^ xs.length) A0).2.1 → mi' 68 27 = (itN (codF P g xs xs.length 0 (gP g) (fun _ => false) (-9)) (P.length ^ xs.length) A0).2.2.1 → mi' 68 28 = (itN (codF P g xs xs.length 0 (gP g) (fun _ => false) (-9)) (P.length ^ xs.length) A0).2.2.2 → Q none (SH L, mi', ml, MR)) : ∀ m c mi u4 u5, c + m = P.length ^ xs.length → mcR mi ((1 <<< (nI P.length &&& 31)) - 1) (itN (codF P g xs xs.length 0 (gP g) (fun _ => false) (-9)) c A0) → sameW mi0 mi → X 210 41 [.ref 68, .int (nI r), .int (nI (P.length ^ xs.length)), .int (nI c), u4, u5] [] (SH L, mi, ml, MR) (d + 5) Q := by
  have hP := hok.1
  have hpow : P.length ^ xs.length ≤ 6 ^ 5 := Nat.le_trans (Nat.pow_le_pow_left hP _) (Nat.pow_le_pow_right (by omega) hs5)
  have h65 : (6 : Nat) ^ 5 = 7776 := rfl
  intro m
  induction m with
  | zero =>
    intro c mi u4 u5 hc hB hs
    rw [show c = P.length ^ xs.length by omega] at hB ⊢
    obtain ⟨b1, b2, b3, b4⟩ := hB
    have hmany := cod_many (P := P) (g := g) (xs := xs) (r := xs.length) (k := 0) (nx := gP g) (f := fun _ => false) (h := -9) (P.length ^ xs.length)
    have hz := cod_zero (P := P) (g := g) (xs := xs) (r := xs.length) (k := 0) (nx := gP g) (f := fun _ => false) (h := -9) (P.length ^ xs.length)
    generalize itN (codF P g xs xs.length 0 (gP g) (fun _ => false) (-9)) (P.length ^ xs.length) A0 = B at q b1 b2 b3 b4 hmany hz
    have hs2 : ∀ v, sameW mi0 (xw mi 68 26 v) := fun v a j h1 h2 h3 => by
      rw [← hs a j h1 h2 h3]
      unfold xw
      rw [if_neg (fun z => by have := h3 z.1; omega)]
    rw [s210_41g, if_neg (nI_nlt (Nat.le_refl _) (by omega)), b1]
    by_cases h0 : B.1 = 0
    · rw [if_pos (show nI B.1 = 0 by rw [h0]; rfl)]
      have eB := hz h0
      refine q _ (hs2 _) (by rw [xw_eq, if_neg (by omega)]; exact b1) ?_ (by rw [xw_eq, if_neg (by omega)]; exact b3) (by rw [xw_eq, if_neg (by omega)]; exact b4)
      rw [xw_eq, if_pos rfl, eB]
      rfl
    · rw [if_neg (show ¬ nI B.1 = 0 from nI_ne0 (by omega) (by omega))]
      rw [if_neg h0] at b2
      exact q _ (hs2 _) (by rw [xw_eq, if_neg (by omega)]; exact b1) (by rw [xw_eq, if_pos rfl]; exact b2) (by rw [xw_eq, if_neg (by omega)]; exact b3) (by rw [xw_eq, if_neg (by omega)]; exact b4)
  | succ m ih =>
    intro c mi u4 u5 hc hB hs
    have hcl : c < P.length ^ xs.length := by omega
    have hmany := cod_many (P := P) (g := g) (xs := xs) (r := xs.length) (k := 0) (nx := gP g) (f := fun _ => false) (h := -9) c
    have hnext : ∀ B, B = itN (codF P g xs xs.length 0 (gP g) (fun _ => false) (-9)) c A0 → itN (codF P g xs xs.length 0 (gP g) (fun _ => false) (-9)) (c + 1) A0 = if okC P g xs xs.length 0 (gP g) c = true then addW B (nI (maskN (ftC P.length xs.length (fun _ => false) c) 6)) (hdC P.length xs.length 0 (-9) c) else B := fun B hB => by
      rw [hB]
      rfl
    have hmod : c % P.length ^ xs.length = c := Nat.mod_eq_of_lt hcl
    have h69 : ∀ m' : Nat → Nat → Int32, (∀ a j, a ≠ 83 → a ≠ 85 → m' a j = mi a j) → m' 69 r = nI xs.length := fun m' h => by
      rw [h _ _ (by omega) (by omega), hs _ _ (by omega) (by omega) (by omega)]
      have := (hRR r hr).1
      rw [hR] at this
      exact this
    rw [s210_41g, if_pos (nI_lt hcl (by omega))]
    refine c208 (d := d) (g := g) (lim := 0) hok hn hr (mR_congr hRR (fun j => hs _ _ (by omega) (by omega) (by omega)) (fun j => hs _ _ (by omega) (by omega) (by omega))) hR hs5 hgd hd hb (by omega) (by rw [hs _ _ (by omega) (by omega) (by omega)]; exact h4) (fun j hj => by rw [hs _ _ (by omega) (by omega) (by omega)]; exact hg j hj) (fun i hi => ?_) (by omega) (fun m1 a1 a2 => ?_)
    · have := hm i hi
      unfold mpR at this ⊢
      rw [hs _ _ (by omega) (by omega) (by omega), hs _ _ (by omega) (by omega) (by omega), hs _ _ (by omega) (by omega) (by omega), hs _ _ (by omega) (by omega) (by omega)]
      exact this
    · have hs1 : sameW mi0 m1 := fun a j h1 h2 h3 => by rw [a1 a j h1 h2, hs a j h1 h2 h3]
      have hev := ev_ok (P := P) (g := g) (xs := xs) (s := xs.length) (c := c) hn xs.length 0 (gP g) (by omega)
      rw [hmod] at hev
      rw [hev, ret1, s210_53g]
      obtain ⟨b1, b2, b3, b4⟩ := hB
      have b1 : m1 68 25 = _ := (a1 _ _ (by omega) (by omega)).trans b1
      have b2 : m1 68 26 = _ := (a1 _ _ (by omega) (by omega)).trans b2
      have b3 : m1 68 27 = _ := (a1 _ _ (by omega) (by omega)).trans b3
      have b4 : m1 68 28 = _ := (a1 _ _ (by omega) (by omega)).trans b4
      have hnx := hnext _ rfl
      have ihc := ih (c + 1)
      rw [hnx] at ihc
      have hz0 := cod_zero (P := P) (g := g) (xs := xs) (r := xs.length) (k := 0) (nx := gP g) (f := fun _ => false) (h := -9) c
      generalize itN (codF P g xs xs.length 0 (gP g) (fun _ => false) (-9)) c A0 = B at b1 b2 b3 b4 hmany ihc hz0
      by_cases ho : okC P g xs xs.length 0 (gP g) c = true
      · rw [if_pos ho, if_pos (show dayM (some 0) = 0 from rfl)]
        rw [if_pos ho] at ihc
        have hft := ft_eq (n := P.length) (s := xs.length) (c := c) xs.length 0 (fun _ => false) (by omega)
        rw [hmod] at hft
        rw [hft] at ihc
        have hway : ∀ j, dg P.length xs.length c j < 6 := fun j => Nat.lt_of_lt_of_le (dg_lt hn) hP
        have l62 := c210_62 (L := L) (mi := m1) (ml := ml) (d := d + 5) (Q := Q) (xs := xs) (x2 := nI (P.length ^ xs.length)) (x3 := nI c) hr (h69 m1 a1) hs5 a2 hway xs.length 0 (fun _ => false) (by omega)
        have e0 : (0 : Int32) = nI (maskN (fun _ => false) 6) := by decide
        refine Eq.mpr (?_ : _ = X 210 62 [.ref 68, .int (nI r), .int (nI (P.length ^ xs.length)), .int (nI c), .int (nI (maskN (ftR (dg P.length xs.length c) xs.length 0 (fun _ => false)) 6)), .int (nI xs.length)] [] (SH L, m1, ml, MR) (d + 5) Q) ?_
        · rw [← l62, ← e0]
          rfl
        · have hfo := ftR_out (way := dg P.length xs.length c) (n := P.length) (fun j => dg_lt hn) xs.length 0 (fun _ => false) (fun _ _ => rfl)
          generalize ftR (dg P.length xs.length c) xs.length 0 (fun _ => false) = f at ihc hfo
          have hfull := mask_full (f := f) hP hfo
          have hnl : ¬ nI xs.length < nI xs.length := nI_nlt (Nat.le_refl _) (by omega)
          rw [s210_62 (xin_nI hr (by omega)) (fun z => absurd (by rw [nI_clamp (by omega), h69 m1 a1] at z; exact z) hnl) (fun _ _ => xin_nI hr (by omega)), nI_clamp (by omega), h69 m1 a1, if_neg hnl, nI_1]
          have fin : ∀ v, v = (if B.1 = 0 then hdC P.length xs.length 0 (-9) c else B.2.2.2) → X 210 41 [.ref 68, .int (nI r), .int (nI (P.length ^ xs.length)), .int (nI (c + 1)), .int (nI (maskN f 6)), .int (nI xs.length)] [] (SH L, m4W m1 v (nI (maskN f 6)), ml, MR) (d + 5) Q := fun v hv => by
            have hw4 := m4W_at m1 v (nI (maskN f 6))
            refine ihc _ _ _ (by omega) ⟨?_, ?_, ?_, ?_⟩ (fun a j h1 h2 h3 => by rw [hw4.2.2.2.2 a j h3, hs1 a j h1 h2 h3])
            · rw [hw4.1, b1, nI_1]
              rfl
            · rw [hw4.2.1, b2]
              show _ = if B.1 + 1 = 0 then _ else (if B.1 = 0 then nI (maskN f 6) else B.2.1 &&& nI (maskN f 6))
              rw [if_neg (Nat.succ_ne_zero _)]
              by_cases h0 : B.1 = 0
              · rw [if_pos h0, if_pos h0, hfull]
              · rw [if_neg h0, if_neg h0]
            · rw [hw4.2.2.1, b3]
              rfl
            · rw [hw4.2.2.2.1, hv]
              rfl
          by_cases h0 : B.1 = 0
          · rw [if_pos (show m1 68 25 = 0 by rw [b1, h0]; rfl)]
            by_cases hs0 : 0 < xs.length
            · rw [if_pos ((nI_pos_iff (by omega)).mpr hs0)]
              refine fin _ ?_
              rw [if_pos h0, show (0 : Int32).toNatClampNeg = 0 from rfl, a2 0 hs0]
              have e := dg_first (n := P.length) (s := xs.length) (c := c) (k := 0) (r := xs.length - 1) (by omega)
              rw [show xs.length - 1 + 1 = xs.length by omega, hmod] at e
              have eh : hdC P.length xs.length 0 (-9) c = hdC P.length (xs.length - 1 + 1) 0 (-9) c := by rw [show xs.length - 1 + 1 = xs.length by omega]
              rw [eh]
              show _ = hdC P.length (xs.length - 1) (0 + 1) (if (0 : Nat) = 0 then nI (c / P.length ^ (xs.length - 1)) else -9) (c % P.length ^ (xs.length - 1))
              rw [hd_keep _ _ _ _ (by omega), if_pos rfl, e.1]
            · rw [if_neg (fun z => hs0 ((nI_pos_iff (by omega)).mp z))]
              refine fin _ ?_
              rw [if_pos h0, b4]
              have hl0 : xs.length = 0 := by omega
              have hz : B.2.2.2 = -9 := by
                rw [hz0 h0]
                rfl
              rw [hz, hl0]
              rfl
          · rw [if_neg (show ¬ m1 68 25 = 0 by rw [b1]; exact nI_ne0 (by omega) (by omega))]
            refine fin _ ?_
            rw [if_neg h0, b4]
      · rw [if_neg ho, if_neg (show ¬ dayM none = 0 by decide), nI_1]
        rw [if_neg ho] at ihc
        exact ihc _ _ _ (by omega) ⟨b1, b2, b3, b4⟩ hs1
theorem c210 (hok : okP P) (hn : 0 < P.length) (hr : r < 6) (hRR : mR R mi) (hR : R r = some xs) (hs5 : xs.length ≤ 5) (hgd : ∀ i, i < xs.length → goodW (xs.getD i 0)) (hd : gD g < 100) (hb : ∀ i, gW g i < 100 ∧ gP g i < 100) (h4 : mi 68 4 = nI P.length) (hg : mgR mi g) (hm : ∀ i, i < P.length → mpR mi i (pl P i)) (q : ∀ mi', sameW mi mi' → mi' 68 25 = nI (dfs P g xs xs.length 0 (gP g) (fun _ => false) (-9) A0).1 → mi' 68 26 = (dfs P g xs xs.length 0 (gP g) (fun _ => false) (-9) A0).2.1 → mi' 68 27 = (dfs P g xs xs.length 0 (gP g) (fun _ => false) (-9) A0).2.2.1 → mi' 68 28 = (dfs P g xs xs.length 0 (gP g) (fun _ => false) (-9) A0).2.2.2 → Q none (SH L, mi', ml, MR)) : Xm 210 [.ref 68, .int (nI r)] (SH L, mi, ml, MR) (d + 5) Q := by
  have h69 : mi 69 r = nI xs.length := by
    have := (hRR r hr).1
    rw [hR] at this
    exact this
  have e4 : xw mi 68 25 0 68 4 = nI P.length := by rw [xw_eq, if_neg (by omega)]; exact h4
  rw [s210 (xin_nI hr (by omega)), e4, nI_clamp (by omega), xw_ne (by omega), xw_ne (by omega), xw_ne (by omega), xw_ne (by omega), h69]
  have hs : sameW mi (xw (xw (xw (xw mi 68 25 0) 68 26 ((1 <<< (nI P.length &&& 31)) - 1)) 68 27 0) 68 28 (-9)) := fun a j h1 h2 h3 => by
    unfold xw
    rw [if_neg (fun z => by have := h3 z.1; omega), if_neg (fun z => by have := h3 z.1; omega), if_neg (fun z => by have := h3 z.1; omega), if_neg (fun z => by have := h3 z.1; omega)]
  have hB : mcR (xw (xw (xw (xw mi 68 25 0) 68 26 ((1 <<< (nI P.length &&& 31)) - 1)) 68 27 0) 68 28 (-9)) ((1 <<< (nI P.length &&& 31)) - 1) A0 := ⟨by simp [xw]; rfl, by rw [if_pos (show A0.1 = 0 from rfl)]; simp [xw], by simp [xw]; rfl, by simp [xw]; rfl⟩
  rw [c207 (by rw [hs _ _ (by omega) (by omega) (by omega)]; exact h4) (by omega), ret1, s210_38]
  refine c210_loop (d := d) (mi0 := mi) hok hn hr hR hs5 hgd hd hb hRR h4 hg hm ?_ (P.length ^ xs.length) 0 _ _ _ (by omega) hB hs
  rw [cod_dfs hok.1]
  exact q
end NONE
section COUNTW
variable {P : pP} {D : List Nat} {L : Nat} {mi : Nat → Nat → Int32} {ml : Nat → Nat → Int64} {d : Nat} {Q : Option Value → xM → Prop} {xs : List Int32}
theorem c75 (hok : okP P) (hD : okD P D) (h : cG P D mi) (hst : stR mi 52 (some xs)) (h5 : xs.length ≤ 5) (hgd : ∀ i, i < xs.length → goodW (xs.getD i 0)) : Xm 75 [.ref 51] (SH L, mi, ml, MR) (d + 9) Q = Q none (SH L, acW (hvW mi (opX P (rep P D) (gP (rep P D))) (gP (rep P D)) 6) (dfs P (rep P D) xs xs.length 0 (gP (rep P D)) (fun _ => false) (-9) A0), ml, MR) := by
  rw [s75, c34 (d := d + 4) hok hD h, ret0, s75_7]
  have e := acW_4 (m := hvW mi (opX P (rep P D) (gP (rep P D))) (gP (rep P D)) 6) (x8 := 0) (x9 := 0) (x10 := 0) (x11 := -9)
  have e : xw (xw (xw (xw (hvW mi (opX P (rep P D) (gP (rep P D))) (gP (rep P D)) 6) 51 8 0) 51 9 0) 51 10 0) 51 11 (-9) = acW (hvW mi (opX P (rep P D) (gP (rep P D))) (gP (rep P D)) 6) A0 := e
  have h6 : 6 ^ xs.length ≤ 6 ^ 5 := Nat.pow_le_pow_right (by omega) h5
  have h65 : (6 : Nat) ^ 5 = 7776 := rfl
  have ea : A0.1 = 0 := rfl
  rw [e]
  refine (c76 (L := L) (ml := ml) (xs := xs) (g := rep P D) hok h.1 (fun i hi => cG_pl h hi) hst h5 hgd xs.length 0 (gP (rep P D)) (fun _ => false) (-9) A0 (d + 8 - 3 - xs.length) (d + 8) (by omega) (by omega) (by omega) _).trans ?_
  rw [ret0, s75_36]
end COUNTW
theorem op_ways (x : Int32) : OpI 123 212 [.int x] := op_of fun R T P D K S hok => by
  have hP := hok.1.1
  have hD := hok.2.1.1
  have hb := rep_le P D
  have hbb : ∀ i, gW (rep P D) i < 100 ∧ gP (rep P D) i < 100 := fun i => by have := hb.2 i; omega
  rcases num_cases x 6 (by omega) with hx | ⟨r, hr, rfl⟩
  · refine ex_ret (.int (-1)) ⟨_, rfl⟩ hok (fun L mi ml Q h k => ?_) (fun L mi ml Q h k => ?_)
    · rw [s123, c82n (shRows L) (by omega) (by omega) hx, ret1, s123_9n, s146n, ret1, s123_12, if_neg (by decide)]; exact k mi ml h sameM_rf
    · rw [s212, c155, ret1, bI_f (in_bad (n := 5) (by omega) hx), s212_4, if_pos rfl]; exact k mi ml h sameC_rf
  have C1 : ∀ L mi ml Q, Cst R T P D K S mi ml → Xm 123 [.ref 2, .int (nI r)] (SH L, mi, ml, MR) 99 Q = Xm 146 [.ref 2, .ref (3 + 2 + 2 * r)] (SH L, mi, ml, MR) 98 (fun v μ' => X 123 12 [.ref 2, .int (nI r), xmk] (v.toList ++ []) μ' 99 Q) := fun L mi ml Q h => by
    rw [s123, c82 (shRows L) (by omega) hr, ret1, s123_9 (strip_row hr)]
  have M1 : ∀ L mi ml Q, Mst R T P D K S mi ml → Xm 212 [.ref 68, .int (nI r)] (SH L, mi, ml, MR) 99 Q = Xm 206 [.ref 68, .int (nI r)] (SH L, mi, ml, MR) 98 (fun v μ' => X 212 14 [.ref 68, .int (nI r), xmk] (v.toList ++ []) μ' 99 Q) := fun L mi ml Q h => by
    rw [s212, c155, ret1, bI_t (in_ok (n := 5) (by omega) (by omega)), s212_4, if_neg i1_ne0]
  by_cases h0 : P.length = 0
  · refine ex_ret (.int (-4)) ⟨_, rfl⟩ hok (fun L mi ml Q h k => ?_) (fun L mi ml Q h k => ?_)
    · rw [C1 L mi ml Q h, s146 (strip_row hr), s17, h.2.2.1.1, h0, if_neg (by decide), ret1, s146_13 (strip_row hr), if_neg i1_ne0, ret1, s123_12, if_neg (by decide)]; exact k mi ml h sameM_rf
    · rw [M1 L mi ml Q h, s206 (fun _ => xin_nI hr (by omega)) (fun _ _ => xin_nI hr (by omega)), h.2.2.1.1, h0, if_pos (by decide), ret1, s212_14, if_neg (by decide)]; exact k mi ml h sameC_rf
  by_cases hp : sw (R r) = 0
  · obtain ⟨xs, hR, hs5, hgd⟩ := sw_0 hp
    have hle := dfs_le (P := P) (g := rep P D) (xs := xs) xs.length 0 (gP (rep P D)) (fun _ => false) (-9) A0
    have h6 : 6 ^ xs.length ≤ 6 ^ 5 := Nat.pow_le_pow_right (by omega) hs5
    have h65 : (6 : Nat) ^ 5 = 7776 := rfl
    have ea : A0.1 = 0 := rfl
    generalize hB : dfs P (rep P D) xs xs.length 0 (gP (rep P D)) (fun _ => false) (-9) A0 = B at hle
    refine ex_S (.int 1) (sTold B.2.1 (sChance (nL (B.1 / Nat.gcd B.1 1)) (nL (1 / Nat.gcd B.1 1)) S)) ⟨_, rfl⟩ hok (fun L mi ml Q h k => ?_) (fun L mi ml Q h k => ?_)
    · obtain ⟨hst, hln⟩ := h.1 r hr
      rw [hR] at hst
      rw [C1 L mi ml Q h]
      refine c146_ok (d := 94) (n := P.length) (by omega) hP h.2.2.1.1 (strip_row hr) (by omega) hst hs5 hgd (fun m1 a1 a2 => ?_)
      have h1 := Cst_scr (mi' := m1) (ml' := ml) hP h (fun a j ha => a2 a j (by omega) (by omega)) (fun _ _ _ => rfl)
      rw [ret1, s123_12, if_pos rfl, c75 (d := 89) hok.1 hok.2.1 h1.1.2.2.1 a1 hs5 hgd, hB, ret0, s123_26, s69, show acW (hvW m1 (opX P (rep P D) (gP (rep P D))) (gP (rep P D)) 6) B 51 8 = nI B.1 from rfl, ret1, s123_37, nI_L (by omega)]
      refine Eq.mpr (c1 (u := B.1) (l := 1) (by omega) (by omega) (by omega)) ?_
      rw [ret0, s123_42, s70, show acW (hvW m1 (opX P (rep P D) (gP (rep P D))) (gP (rep P D)) 6) B 51 9 = B.2.1 from rfl, ret1, s123_50]
      have h2 := Cst_scr (mi' := acW (hvW m1 (opX P (rep P D) (gP (rep P D))) (gP (rep P D)) 6) B) (ml' := ml) hP h1.1 (fun a j ha => by rw [acW_ne (by omega), hvW_ne (by omega) (by omega)]) (fun _ _ _ => rfl)
      have h3 := Cst_chance (a := nL (B.1 / Nat.gcd B.1 1)) (b := nL (1 / Nat.gcd B.1 1)) h2.1
      have h4 := Cst_told (v := B.2.1) hP h3.1
      exact k _ _ h4.1 (sameM_tr h1.2 (sameM_tr h2.2 (sameM_tr h3.2 h4.2)))
    · rw [M1 L mi ml Q h, c206 (d := 97) (by omega) hP h.2.2.1.1 hr h.1, if_pos hp, ret1, s212_14, if_pos rfl]
      refine c210 (d := 93) (g := rep P D) hok.1 (by omega) hr h.1 hR hs5 hgd (by omega) hbb h.2.2.1.1 (mG_g h.2.2.1) (fun i hi => mG_pl h.2.2.1 hi) (fun m1 a0 a1 a2 a3 a4 => ?_)
      rw [hB] at a1 a2 a3 a4
      have h1 := Mst_scr (mi' := m1) h (fun j hj => a0 68 j (by omega) (by omega) (by omega)) (fun a j ha hb => a0 a j (by omega) (by omega) (fun z => absurd z ha))
      have h2 := Mst_told (v := B.2.1) h1.1
      rw [ret0, s212_26, a2, xw_eq, if_neg (by omega), a1, nI_L (by omega)]
      refine Eq.mpr (c211 (u := B.1) (l := 1) (by omega) (by omega) (by omega)) ?_
      rw [ret1, s212_44]
      have h3 := Mst_chance (a := nL (B.1 / Nat.gcd B.1 1)) (b := nL (1 / Nat.gcd B.1 1)) h2.1
      exact k _ _ h3.1 (sameC_tr h1.2 (sameC_tr h2.2 h3.2))
  · refine ex_S (.int (-3)) (sFound (sw (R r)) S) ⟨_, rfl⟩ hok (fun L mi ml Q h k => ?_) (fun L mi ml Q h k => ?_)
    · obtain ⟨hst, hln⟩ := h.1 r hr
      rw [C1 L mi ml Q h, c146 (d := 95) (n := P.length) (by omega) hP h.2.2.1.1 (strip_row hr) hst hln hp, ret1, s123_12, if_neg (by decide)]
      exact k _ _ (Cst_found hP h).1 (Cst_found hP h).2
    · rw [M1 L mi ml Q h, c206 (d := 97) (by omega) hP h.2.2.1.1 hr h.1, if_neg hp, ret1, s212_14, if_neg (by decide)]
      exact k _ _ (Mst_found h).1 (Mst_found h).2
theorem op_none (x : Int32) : OpI 124 213 [.int x] := op_of fun R T P D K S hok => by
  have hP := hok.1.1
  have hD := hok.2.1.1
  have hb := rep_le P D
  have hbb : ∀ i, gW (rep P D) i < 100 ∧ gP (rep P D) i < 100 := fun i => by have := hb.2 i; omega
  rcases num_cases x 6 (by omega) with hx | ⟨r, hr, rfl⟩
  · refine ex_ret (.int (-1)) ⟨_, rfl⟩ hok (fun L mi ml Q h k => ?_) (fun L mi ml Q h k => ?_)
    · rw [s124, c82n (shRows L) (by omega) (by omega) hx, ret1, s124_9n, s146n, ret1, s124_12, if_neg (by decide)]; exact k mi ml h sameM_rf
    · rw [s213, c155, ret1, bI_f (in_bad (n := 5) (by omega) hx), s213_4, if_pos rfl]; exact k mi ml h sameC_rf
  have C1 : ∀ L mi ml Q, Cst R T P D K S mi ml → Xm 124 [.ref 2, .int (nI r)] (SH L, mi, ml, MR) 99 Q = Xm 146 [.ref 2, .ref (3 + 2 + 2 * r)] (SH L, mi, ml, MR) 98 (fun v μ' => X 124 12 [.ref 2, .int (nI r), xmk] (v.toList ++ []) μ' 99 Q) := fun L mi ml Q h => by
    rw [s124, c82 (shRows L) (by omega) hr, ret1, s124_9 (strip_row hr)]
  have M1 : ∀ L mi ml Q, Mst R T P D K S mi ml → Xm 213 [.ref 68, .int (nI r)] (SH L, mi, ml, MR) 99 Q = Xm 206 [.ref 68, .int (nI r)] (SH L, mi, ml, MR) 98 (fun v μ' => X 213 14 [.ref 68, .int (nI r), xmk] (v.toList ++ []) μ' 99 Q) := fun L mi ml Q h => by
    rw [s213, c155, ret1, bI_t (in_ok (n := 5) (by omega) (by omega)), s213_4, if_neg i1_ne0]
  by_cases h0 : P.length = 0
  · refine ex_ret (.int (-4)) ⟨_, rfl⟩ hok (fun L mi ml Q h k => ?_) (fun L mi ml Q h k => ?_)
    · rw [C1 L mi ml Q h, s146 (strip_row hr), s17, h.2.2.1.1, h0, if_neg (by decide), ret1, s146_13 (strip_row hr), if_neg i1_ne0, ret1, s124_12, if_neg (by decide)]; exact k mi ml h sameM_rf
    · rw [M1 L mi ml Q h, s206 (fun _ => xin_nI hr (by omega)) (fun _ _ => xin_nI hr (by omega)), h.2.2.1.1, h0, if_pos (by decide), ret1, s213_14, if_neg (by decide)]; exact k mi ml h sameC_rf
  by_cases hp : sw (R r) = 0
  · obtain ⟨xs, hR, hs5, hgd⟩ := sw_0 hp
    have hle := dfs_le (P := P) (g := rep P D) (xs := xs) xs.length 0 (gP (rep P D)) (fun _ => false) (-9) A0
    have h6 : 6 ^ xs.length ≤ 6 ^ 5 := Nat.pow_le_pow_right (by omega) hs5
    have h65 : (6 : Nat) ^ 5 = 7776 := rfl
    have ea : A0.1 = 0 := rfl
    generalize hB : dfs P (rep P D) xs xs.length 0 (gP (rep P D)) (fun _ => false) (-9) A0 = B at hle
    have C2 : ∀ L mi ml (Q : Option Value → xM → Prop), Cst R T P D K S mi ml → (∀ m1, Cst R T P D K S m1 ml → sameM mi m1 ml ml → m1 51 8 = nI B.1 → m1 51 10 = B.2.2.1 → m1 51 11 = B.2.2.2 → X 124 33 [.ref 2, .int (nI r), .int 0] [.int (nI B.1)] (SH L, m1, ml, MR) 99 Q) → Xm 124 [.ref 2, .int (nI r)] (SH L, mi, ml, MR) 99 Q := fun L mi ml Q h q => by
      obtain ⟨hst, hln⟩ := h.1 r hr
      rw [hR] at hst
      rw [C1 L mi ml Q h]
      refine c146_ok (d := 94) (n := P.length) (by omega) hP h.2.2.1.1 (strip_row hr) (by omega) hst hs5 hgd (fun m1 a1 a2 => ?_)
      have h1 := Cst_scr (mi' := m1) (ml' := ml) hP h (fun a j ha => a2 a j (by omega) (by omega)) (fun _ _ _ => rfl)
      have h2 := Cst_scr (mi' := acW (hvW m1 (opX P (rep P D) (gP (rep P D))) (gP (rep P D)) 6) B) (ml' := ml) hP h1.1 (fun a j ha => by rw [acW_ne (by omega), hvW_ne (by omega) (by omega)]) (fun _ _ _ => rfl)
      rw [ret1, s124_12, if_pos rfl, c75 (d := 89) hok.1 hok.2.1 h1.1.2.2.1 a1 hs5 hgd, hB, ret0, s124_26, s69, show acW (hvW m1 (opX P (rep P D) (gP (rep P D))) (gP (rep P D)) 6) B 51 8 = nI B.1 from rfl, ret1]
      exact q _ h2.1 (sameM_tr h1.2 h2.2) rfl rfl rfl
    have M2 : ∀ L mi ml (Q : Option Value → xM → Prop), Mst R T P D K S mi ml → (∀ m1, Mst R T P D K S m1 ml → sameC mi m1 ml ml → m1 68 25 = nI B.1 → m1 68 27 = B.2.2.1 → m1 68 28 = B.2.2.2 → X 213 26 [.ref 68, .int (nI r), .int 0] [] (SH L, m1, ml, MR) 99 Q) → Xm 213 [.ref 68, .int (nI r)] (SH L, mi, ml, MR) 99 Q := fun L mi ml Q h q => by
      rw [M1 L mi ml Q h, c206 (d := 97) (by omega) hP h.2.2.1.1 hr h.1, if_pos hp, ret1, s213_14, if_pos rfl]
      refine c210 (d := 93) (g := rep P D) hok.1 (by omega) hr h.1 hR hs5 hgd (by omega) hbb h.2.2.1.1 (mG_g h.2.2.1) (fun i hi => mG_pl h.2.2.1 hi) (fun m1 a0 a1 a2 a3 a4 => ?_)
      rw [hB] at a1 a2 a3 a4
      have h1 := Mst_scr (mi' := m1) h (fun j hj => a0 68 j (by omega) (by omega) (by omega)) (fun a j ha hb => a0 a j (by omega) (by omega) (fun z => absurd z ha))
      rw [ret0]
      exact q _ h1.1 h1.2 a1 a3 a4
    by_cases hm0 : B.1 = 0
    · refine ex_S (.int (-3)) (sFound 4 S) ⟨_, rfl⟩ hok (fun L mi ml Q h k => ?_) (fun L mi ml Q h k => ?_)
      · refine C2 L mi ml Q h (fun m1 a1 a2 a3 a4 a5 => ?_)
        rw [s124_33, if_pos (show nI B.1 = 0 by rw [hm0]; rfl), c141_4, ret1, s124_41]
        exact k _ _ (Cst_found hP a1).1 (sameM_tr a2 (Cst_found hP a1).2)
      · refine M2 L mi ml Q h (fun m1 a1 a2 a3 a4 a5 => ?_)
        rw [s213_26, a3, if_pos (show nI B.1 = 0 by rw [hm0]; rfl), c152_4, ret1, s213_38]
        exact k _ _ (Mst_found a1).1 (sameC_tr a2 (Mst_found a1).2)
    · have hne : ¬ nI B.1 = 0 := nI_ne0 (by omega) (by omega)
      refine ex_S (.int (((1 <<< (nI P.length &&& 31)) - 1) &&& (B.2.2.1 ^^^ (-1)))) (sTold B.2.2.2 S) ⟨_, rfl⟩ hok (fun L mi ml Q h k => ?_) (fun L mi ml Q h k => ?_)
      · refine C2 L mi ml Q h (fun m1 a1 a2 a3 a4 a5 => ?_)
        have h2 := Cst_told (v := B.2.2.2) hP a1
        rw [s124_33, if_neg hne, s72, a5, ret1, s124_50, s29, h2.1.2.2.1.1, ret1, s124_60, s71, xw_ne (by omega), a4, ret1, s124_67]
        exact k _ _ h2.1 (sameM_tr a2 h2.2)
      · refine M2 L mi ml Q h (fun m1 a1 a2 a3 a4 a5 => ?_)
        rw [s213_26, a3, if_neg hne, a1.2.2.1.1, a4, a5, s154, ret1, s213_64]
        exact k _ _ (Mst_told a1).1 (sameC_tr a2 (Mst_told a1).2)
  · refine ex_S (.int (-3)) (sFound (sw (R r)) S) ⟨_, rfl⟩ hok (fun L mi ml Q h k => ?_) (fun L mi ml Q h k => ?_)
    · obtain ⟨hst, hln⟩ := h.1 r hr
      rw [C1 L mi ml Q h, c146 (d := 95) (n := P.length) (by omega) hP h.2.2.1.1 (strip_row hr) hst hln hp, ret1, s124_12, if_neg (by decide)]
      exact k _ _ (Cst_found hP h).1 (Cst_found hP h).2
    · rw [M1 L mi ml Q h, c206 (d := 97) (by omega) hP h.2.2.1.1 hr h.1, if_neg hp, ret1, s213_14, if_neg (by decide)]
      exact k _ _ (Mst_found h).1 (Mst_found h).2
