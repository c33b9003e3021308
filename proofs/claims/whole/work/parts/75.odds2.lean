/-! odds, mid: the model, the calls -/
theorem sub_bits : ∀ s l : Fin 64, (nI l.val &&& (nI s.val ^^^ (-1)) = 0) ↔ subB (fun i => s.val.testBit i) l.val 6 = true := by decide +kernel
theorem cnt_bits : ∀ l : Fin 64, cntN l.val = c1N l.val 6 := by decide +kernel
theorem rest_bits : ∀ s l : Fin 64, ∃ r : Fin 64, nI s.val &&& (nI l.val ^^^ (-1)) = nI r.val ∧ cntN r.val = c0N (fun i => s.val.testBit i) l.val 6 := by
  have key : ∀ s l : Fin 64, s.val &&& (63 ^^^ l.val) < 64 ∧ nI s.val &&& (nI l.val ^^^ (-1)) = nI (s.val &&& (63 ^^^ l.val)) ∧ cntN (s.val &&& (63 ^^^ l.val)) = c0N (fun i => s.val.testBit i) l.val 6 := by decide +kernel
  intro s l
  have k := key s l
  exact ⟨⟨s.val &&& (63 ^^^ l.val), k.1⟩, k.2.1, k.2.2⟩
theorem pow_bits : ∀ n : Fin 7, (1 : Int32) <<< (nI n.val &&& 31) = nI (2 ^ n.val) := by decide +kernel
theorem subB_congr {f g : Nat → Bool} {l : Nat} : ∀ n, (∀ i, i < n → f i = g i) → subB f l n = subB g l n := by
  intro n
  induction n with
  | zero => intro _; rfl
  | succ n ih => intro h; unfold subB; rw [ih (fun i hi => h i (by omega)), h n (by omega)]
theorem c0N_congr {f g : Nat → Bool} {l : Nat} : ∀ n, (∀ i, i < n → f i = g i) → c0N f l n = c0N g l n := by
  intro n
  induction n with
  | zero => intro _; rfl
  | succ n ih => intro h; unfold c0N; rw [ih (fun i hi => h i (by omega)), h n (by omega)]
theorem mask_tb (f : Nat → Bool) : ∀ i, i < 6 → (fun i => (maskN f 6).testBit i) i = f i := fun i hi => by
  show (maskN f 6).testBit i = f i
  rw [maskN_bit]
  simp [hi]
/-- what the model adds for one code -/
def chF (P : pP) (g : pG) (x1 : Int32) (p l : Nat) : Nat := wt (fB P g) p l P.length * (if x1 < 0 then grN (wB P g) l P.length else if nI (c1N l P.length) < x1 then 0 else 1)
section CHANCES
variable {P : pP} {g : pG} {L : Nat} {mi : Nat → Nat → Int32} {ml : Nat → Nat → Int64} {d : Nat} {Q : Option Value → xM → Prop} {p l : Nat} {x1 : Int32} {s : Nat}
theorem fB_out (i : Nat) (h : P.length ≤ i) : fB P g i = false := decide_eq_false (fun z => by have := z.1; omega)
theorem wB_le (i : Nat) : wB P g i ≤ 9 := by
  have := wordP_lt (pl P i) (gP g i)
  unfold wB
  omega
theorem c150_bit {k : Nat} (hl : l < 64) (hk : k < 6) : Xm 150 [.int (nI l), .int (nI k)] (SH L, mi, ml, MR) d Q = Q (some (.int (bI (l.testBit k = true)))) (SH L, mi, ml, MR) := by
  have h := bit_has10 ⟨k, by omega⟩ ⟨l, by omega⟩
  rw [s150]
  by_cases hb : l.testBit k = true
  · rw [if_pos (h.mpr hb), bI_t hb]
  · rw [if_neg (fun z => hb (h.mp z)), bI_f hb]
theorem c225_step {u7 u8 : Value} (hok : okP P) (hb : ∀ i, gP g i < 100) (h4 : mi 68 4 = nI P.length) (hg : mgR mi g) (hm : ∀ i, i < P.length → mpR mi i (pl P i)) (hp : p ≤ 12) (hl : l < 2 ^ P.length) : ∃ v7 v8, X 225 11 [.ref 68, .int x1, .int (nI p), .int (nI (maskN (fB P g) 6)), .long (nL s), xmk, .int (nI l), u7, u8, xmk] [] (SH L, mi, ml, MR) (d + 3) Q = X 225 11 [.ref 68, .int x1, .int (nI p), .int (nI (maskN (fB P g) 6)), .long (nL (s + chF P g x1 p l)), xmk, .int (nI (l + 1)), v7, v8, xmk] [] (SH L, mi, ml, MR) (d + 3) Q := by
  have hP := hok.1
  have h64 : 2 ^ P.length ≤ 2 ^ 6 := Nat.pow_le_pow_right (by omega) hP
  have h646 : (2 : Nat) ^ 6 = 64 := rfl
  have hl64 : l < 64 := by omega
  have hms := maskN_lt (fB P g) 6
  have hpb : (1 : Int32) <<< (nI P.length &&& 31) = nI (2 ^ P.length) := pow_bits ⟨P.length, by omega⟩
  have e6 : P.length + (6 - P.length) = 6 := by omega
  have hw6 : wt (fB P g) p l 6 = wt (fB P g) p l P.length := by
    have := wt_ext (f := fB P g) (p := p) hl (fun i hi => fB_out i hi) (6 - P.length)
    rw [e6] at this
    exact this
  have hc6 : c1N l 6 = c1N l P.length := by
    have := c1N_ext hl (6 - P.length)
    rw [e6] at this
    exact this
  have hsb : (nI l &&& (nI (maskN (fB P g) 6) ^^^ (-1)) = 0) ↔ subB (fB P g) l 6 = true := by
    have := sub_bits ⟨maskN (fB P g) 6, hms⟩ ⟨l, hl64⟩
    rw [← subB_congr 6 (mask_tb (fB P g))]
    exact this
  have hwe := wt_eq (f := fB P g) (p := p) (l := l) 6
  rw [s225_11g, h4, hpb, if_pos (nI_lt hl (by omega))]
  by_cases hs : subB (fB P g) l 6 = true
  · rw [if_pos (hsb.mpr hs)]
    have lp := X_loop (mid := 225) (pc := 37) (d := d + 3) (Q := Q) (fun k => [.ref 68, .int x1, .int (nI p), .int (nI (maskN (fB P g) 6)), .long (nL s), xmk, .int (nI l), .int (nI (grN (wB P g) l k)), .int (nI k), xmk]) (fun _ => (SH L, mi, ml, MR)) P.length (fun k hk => by
      have hbk := hb k
      have hgr := grN_le (wd := wB P g) (l := l) wB_le k
      have hwk := wB_le (P := P) (g := g) k
      have eg : grN (wB P g) l (k + 1) = if l.testBit k = true ∧ grN (wB P g) l k < wB P g k then wB P g k else grN (wB P g) l k := rfl
      rw [s225_37, h4, if_pos (nI_lt hk (by omega)), c150_bit hl64 (by omega), ret1, s225_53, eg]
      by_cases ht : l.testBit k = true
      · rw [bI_t ht, if_neg i1_ne0, c201 (by omega) hg (hm k hk) (hok.2 k hk) (by omega), ret1, s225_62]
        by_cases hx : grN (wB P g) l k < wB P g k
        · rw [if_pos (show nI (grN (wB P g) l k) < nI (wordP (pl P k) (gP g k)) from nI_lt hx (by unfold wB at hwk; omega)), c201 (by omega) hg (hm k hk) (hok.2 k hk) (by omega), ret1, s225_73, nI_1, if_pos ⟨ht, hx⟩]
          rfl
        · rw [if_neg (show ¬ nI (grN (wB P g) l k) < nI (wordP (pl P k) (gP g k)) from nI_nlt (Nat.le_of_not_lt hx) (by omega)), if_neg (fun z => hx z.2), nI_1]
      · rw [bI_f ht, if_pos rfl, if_neg (fun z => ht z.1), nI_1])
    have lp : X 225 37 [.ref 68, .int x1, .int (nI p), .int (nI (maskN (fB P g) 6)), .long (nL s), xmk, .int (nI l), .int 0, .int 0, xmk] [] (SH L, mi, ml, MR) (d + 3) Q = _ := lp
    rw [lp, s225_37, h4, if_neg (nI_nlt (by omega) (by omega)), c151 hl64, ret1, s225_96]
    have hc1 : cntN l = c1N l P.length := (cnt_bits ⟨l, hl64⟩).trans hc6
    have hcle : ∀ n, c1N l n ≤ n := by
      intro n
      induction n with
      | zero => exact Nat.le_refl _
      | succ n ih =>
        show c1N l n + (if l.testBit n = true then 1 else 0) ≤ n + 1
        split <;> omega
    have hcp := hcle P.length
    have e12 : (12 - nI p).toInt64 = nL (12 - p) := by
      rw [show (12 : Int32) = nI 12 from rfl, nI_sub hp, nI_L (by omega)]
    obtain ⟨r, hr1, hr2⟩ := rest_bits ⟨maskN (fB P g) 6, hms⟩ ⟨l, hl64⟩
    have hr1 : nI (maskN (fB P g) 6) &&& (nI l ^^^ (-1)) = nI r.val := hr1
    have hr2 : cntN r.val = c0N (fun i => (maskN (fB P g) 6).testBit i) l 6 := hr2
    rw [c0N_congr 6 (mask_tb (fB P g))] at hr2
    have hr6 : ∀ n, c0N (fB P g) l n ≤ n := by
      intro n
      induction n with
      | zero => exact Nat.le_refl _
      | succ n ih =>
        show c0N (fB P g) l n + (if fB P g n = true ∧ ¬ l.testBit n = true then 1 else 0) ≤ n + 1
        split <;> omega
    have hr66 := hr6 6
    rw [e12, hc1, c224 (by omega), ret1, s225_99, hr1, c151 r.isLt, hr2, ret1, s225_110, nI_L (by omega), c224 (by omega), ret1, s225_113, nL_mul, nI_1]
    rw [if_pos hs, hw6, hc6] at hwe
    rw [← hwe]
    unfold chF
    by_cases hx : x1 < 0
    · rw [if_pos hx, if_pos hx]
      have hgr := grN_le (wd := wB P g) (l := l) wB_le P.length
      rw [nI_L (by omega), nL_mul, nL_add]
      exact ⟨_, _, rfl⟩
    · rw [if_neg hx, if_neg hx, c151 hl64, hc1, ret1, s225_134, nI_1]
      by_cases hy : nI (c1N l P.length) < x1
      · rw [if_pos hy, if_pos hy, show (0 : Int32).toInt64 = nL 0 from rfl, nL_mul, nL_add]
        exact ⟨_, _, rfl⟩
      · rw [if_neg hy, if_neg hy, show (1 : Int32).toInt64 = nL 1 from rfl, nL_mul, nL_add]
        exact ⟨_, _, rfl⟩
  · rw [if_neg (fun z => hs (hsb.mp z)), nI_1]
    rw [if_neg hs, hw6] at hwe
    unfold chF
    rw [hwe, Nat.zero_mul]
    exact ⟨_, _, rfl⟩
theorem c225_loop (hok : okP P) (hb : ∀ i, gP g i < 100) (h4 : mi 68 4 = nI P.length) (hg : mgR mi g) (hm : ∀ i, i < P.length → mpR mi i (pl P i)) (hp : p ≤ 12) (hF : sN (chF P g x1 p) (2 ^ P.length) < 2 ^ 62) : ∀ r l u7 u8, l + r = 2 ^ P.length → X 225 11 [.ref 68, .int x1, .int (nI p), .int (nI (maskN (fB P g) 6)), .long (nL (sN (chF P g x1 p) l)), xmk, .int (nI l), u7, u8, xmk] [] (SH L, mi, ml, MR) (d + 3) Q = Q (some (.int 1)) (SH L, mi, xw (xw ml 68 15 (nL (sN (chF P g x1 p) (2 ^ P.length) / Nat.gcd (sN (chF P g x1 p) (2 ^ P.length)) (12 ^ cntf (fB P g) 6)))) 68 16 (nL (12 ^ cntf (fB P g) 6 / Nat.gcd (sN (chF P g x1 p) (2 ^ P.length)) (12 ^ cntf (fB P g) 6))), MR) := by
  have hP := hok.1
  have h64 : 2 ^ P.length ≤ 2 ^ 6 := Nat.pow_le_pow_right (by omega) hP
  have h646 : (2 : Nat) ^ 6 = 64 := rfl
  have hms := maskN_lt (fB P g) 6
  have hpb : (1 : Int32) <<< (nI P.length &&& 31) = nI (2 ^ P.length) := pow_bits ⟨P.length, by omega⟩
  intro r
  induction r with
  | zero =>
    intro l u7 u8 hl
    have hcm : cntN (maskN (fB P g) 6) = cntf (fB P g) 6 := by
      rw [show cntN (maskN (fB P g) 6) = c1N (maskN (fB P g) 6) 6 from cnt_bits ⟨maskN (fB P g) 6, hms⟩]
      have : ∀ n, n ≤ 6 → c1N (maskN (fB P g) 6) n = cntf (fB P g) n := by
        intro n
        induction n with
        | zero => intro _; rfl
        | succ n ih =>
          intro hn
          show c1N (maskN (fB P g) 6) n + (if (maskN (fB P g) 6).testBit n = true then 1 else 0) = cntf (fB P g) n + (if fB P g n = true then 1 else 0)
          rw [ih (by omega), show (maskN (fB P g) 6).testBit n = fB P g n from mask_tb (fB P g) n (by omega)]
      exact this 6 (Nat.le_refl _)
    have hm6 := cntf_le (f := fB P g) 6
    have h12 : 12 ^ cntf (fB P g) 6 ≤ 12 ^ 6 := Nat.pow_le_pow_right (by omega) hm6
    have h120 : 0 < 12 ^ cntf (fB P g) 6 := Nat.pow_pos (by omega)
    have h126 : (12 : Nat) ^ 6 = 2985984 := rfl
    rw [show l = 2 ^ P.length by omega, s225_11g, h4, hpb, if_neg (nI_nlt (Nat.le_refl _) (by omega)), c151 (by omega), hcm, ret1, s225_164g]
    refine (c224 (b := 12) (by omega)).trans ?_
    rw [ret1, s225_167g, c211 hF (by omega) h120, ret1, s225_170g]
  | succ r ih =>
    intro l u7 u8 hl
    obtain ⟨v7, v8, e⟩ := c225_step (L := L) (ml := ml) (d := d) (Q := Q) (u7 := u7) (u8 := u8) (x1 := x1) (s := sN (chF P g x1 p) l) hok hb h4 hg hm hp (l := l) (by omega)
    rw [e]
    exact ih (l + 1) v7 v8 (by omega)
theorem c225 (hok : okP P) (hD : gD g < 500) (hb : ∀ i, gW g i < 100 ∧ gP g i < 100) (h4 : mi 68 4 = nI P.length) (hg : mgR mi g) (hm : ∀ i, i < P.length → mpR mi i (pl P i)) (hp : p ≤ 12) (hF : sN (chF P g x1 p) (2 ^ P.length) < 2 ^ 62) : Xm 225 [.ref 68, .int x1, .int (nI p)] (SH L, mi, ml, MR) (d + 6) Q = Q (some (.int 1)) (SH L, mi, xw (xw ml 68 15 (nL (sN (chF P g x1 p) (2 ^ P.length) / Nat.gcd (sN (chF P g x1 p) (2 ^ P.length)) (12 ^ cntf (fB P g) 6)))) 68 16 (nL (12 ^ cntf (fB P g) 6 / Nat.gcd (sN (chF P g x1 p) (2 ^ P.length)) (12 ^ cntf (fB P g) 6))), MR) := by
  rw [s225, c200 hok hD hb h4 hg hm, ret1, s225_4]
  exact c225_loop (d := d + 3) hok (fun i => (hb i).2) h4 hg hm hp hF (2 ^ P.length) 0 _ _ (by omega)
theorem cntf_6 (hP : P.length ≤ 6) : cntf (fB P g) 6 = cntf (fB P g) P.length := by
  have := sN_ext (f := fun i => if fB P g i = true then 1 else 0) (n := P.length) (6 - P.length) (fun j hj => by rw [fB_out j hj]; rfl)
  rw [show P.length + (6 - P.length) = 6 by omega] at this
  exact this
theorem such_6 {w : Nat} (hP : P.length ≤ 6) : suchN (fB P g) (wB P g) w 6 = suchN (fB P g) (wB P g) w P.length := by
  have := sN_ext (f := fun i => if fB P g i = true ∧ w ≤ wB P g i then 1 else 0) (n := P.length) (6 - P.length) (fun j hj => by rw [fB_out j hj]; simp)
  rw [show P.length + (6 - P.length) = 6 by omega] at this
  exact this
theorem ch_odds {v : Nat} (hP : P.length ≤ 6) (hp : p ≤ 12) (hv : v ≤ 6) : sN (chF P g (nI v) p) (2 ^ P.length) = Uq p (cntf (fB P g) 6) v := by
  rw [cntf_6 hP, ← wt_odds hp P.length v hP hv]
  refine sN_congr _ (fun l hl => ?_)
  unfold chF
  rw [if_neg (nI_nneg (by omega))]
  have hcle : ∀ n, c1N l n ≤ n := by
    intro n
    induction n with
    | zero => exact Nat.le_refl _
    | succ n ih =>
      show c1N l n + (if l.testBit n = true then 1 else 0) ≤ n + 1
      split <;> omega
  have := hcle P.length
  by_cases hx : v ≤ c1N l P.length
  · rw [if_neg (nI_nlt hx (by omega)), if_pos hx]
  · rw [if_pos (nI_lt (by omega) (by omega)), if_neg hx]
theorem ch_mid (hP : P.length ≤ 6) (hp : p ≤ 12) : sN (chF P g (-1) p) (2 ^ P.length) = sN (midG p (cntf (fB P g) 6) (fun w => suchN (fB P g) (wB P g) w 6)) 9 := by
  have e := wt_mid (f := fB P g) (wd := wB P g) (n := P.length) hp wB_le
  have e1 : sN (chF P g (-1) p) (2 ^ P.length) = sN (fun l => wt (fB P g) p l P.length * grN (wB P g) l P.length) (2 ^ P.length) := sN_congr _ (fun l _ => by unfold chF; rw [if_pos (by decide)])
  rw [e1, e]
  refine sN_congr 9 (fun w _ => ?_)
  have := such_oth (f := fB P g) (wd := wB P g) (w := w + 1) P.length
  unfold midG
  simp only [such_6 hP]
  rw [cntf_6 hP, show cntf (fB P g) P.length - suchN (fB P g) (wB P g) (w + 1) P.length = othN (fB P g) (wB P g) (w + 1) P.length by omega]
theorem Uq_lt : ∀ p : Fin 13, ∀ m : Fin 7, ∀ v : Fin 7, Uq p.val m.val v.val < 2 ^ 62 := by decide +kernel
theorem midG_lt {m : Nat} {s : Nat → Nat} (hm : m ≤ 6) : sN (midG p m s) 9 < 2 ^ 62 := by
  have h12 : 12 ^ m ≤ 12 ^ 6 := Nat.pow_le_pow_right (by omega) hm
  have h126 : (12 : Nat) ^ 6 = 2985984 := rfl
  have hb1 : ∀ n, sN (midG p m s) n ≤ n * 12 ^ m := by
    intro n
    induction n with
    | zero => exact Nat.zero_le _
    | succ n ih =>
      have hmg : midG p m s n ≤ 12 ^ m := Nat.sub_le _ _
      show sN (midG p m s) n + midG p m s n ≤ (n + 1) * 12 ^ m
      rw [Nat.succ_mul]
      omega
  have := hb1 9
  omega
end CHANCES
theorem op_odds (x1 x2 : Int32) : OpI 131 226 [.int x1, .int x2] := op_of fun R T P D K S hok => by
  have hP := hok.1.1
  have hD := hok.2.1.1
  have hb := rep_le P D
  have hbb : ∀ i, gW (rep P D) i < 100 ∧ gP (rep P D) i < 100 := fun i => by have := hb.2 i; omega
  have q0 : (0 : Int64) = (0 : Int32).toInt64 := rfl
  have q6 : (6 : Int64) = (nI 6).toInt64 := rfl
  have q12 : (12 : Int64) = (nI 12).toInt64 := rfl
  rcases num_cases x1 7 (by omega) with hx | ⟨v, hv, rfl⟩
  · have hbad := in_bad (n := 6) (by omega) hx
    refine ex_ret (.int (-1)) ⟨_, rfl⟩ hok (fun L mi ml Q h k => ?_) (fun L mi ml Q h k => ?_)
    · rw [s131]
      by_cases h0 : x1 < 0
      · rw [if_pos h0]; exact k mi ml h sameM_rf
      · rw [if_neg h0, if_pos (show (6 : Int32) < x1 from Classical.byContradiction fun z => hbad ⟨h0, z⟩)]; exact k mi ml h sameM_rf
    · rw [s226, q0, q6, c149, ret1, bI_f hbad, s226_9, if_pos rfl]; exact k mi ml h sameC_rf
  rcases num_cases x2 13 (by omega) with hx | ⟨p, hp, rfl⟩
  · have hbad := in_bad (n := 12) (by omega) hx
    refine ex_ret (.int (-1)) ⟨_, rfl⟩ hok (fun L mi ml Q h k => ?_) (fun L mi ml Q h k => ?_)
    · rw [s131, if_neg (nI_nneg (by omega)), if_neg (show ¬ (6 : Int32) < nI v from nI_nlt (a := 6) (by omega) (by omega))]
      by_cases h0 : x2 < 0
      · rw [if_pos h0]; exact k mi ml h sameM_rf
      · rw [if_neg h0, if_pos (show (12 : Int32) < x2 from Classical.byContradiction fun z => hbad ⟨h0, z⟩)]; exact k mi ml h sameM_rf
    · rw [s226, q0, q6, c149, ret1, bI_t (in_ok (n := 6) (by omega) (by omega)), s226_9, if_neg i1_ne0, q0, q12, c149, ret1, bI_f hbad, s226_21, if_pos rfl]; exact k mi ml h sameC_rf
  have C1 : ∀ L mi ml Q, Cst R T P D K S mi ml → Xm 131 [.ref 2, .int (nI v), .int (nI p)] (SH L, mi, ml, MR) 99 Q = X 131 29 [.ref 2, .int (nI v), .int (nI p)] [.int (if (0 : Int32) < nI P.length then 0 else 1)] (SH L, mi, ml, MR) 99 Q := fun L mi ml Q h => by
    rw [s131, if_neg (nI_nneg (by omega)), if_neg (show ¬ (6 : Int32) < nI v from nI_nlt (a := 6) (by omega) (by omega)), if_neg (nI_nneg (by omega)), if_neg (show ¬ (12 : Int32) < nI p from nI_nlt (a := 12) (by omega) (by omega)), s17, h.2.2.1.1]
    split <;> rw [ret1]
  have M1 : ∀ L mi ml Q, Mst R T P D K S mi ml → Xm 226 [.ref 68, .int (nI v), .int (nI p)] (SH L, mi, ml, MR) 99 Q = if nI P.length = 0 then Q (some (.int (-4))) (SH L, mi, ml, MR) else Xm 225 [.ref 68, .int (nI v), .int (nI p)] (SH L, mi, ml, MR) 98 (fun w μ' => X 226 44 [.ref 68, .int (nI v), .int (nI p)] (w.toList ++ []) μ' 99 Q) := fun L mi ml Q h => by
    rw [s226, q0, q6, c149, ret1, bI_t (in_ok (n := 6) (by omega) (by omega)), s226_9, if_neg i1_ne0, q0, q12, c149, ret1, bI_t (in_ok (n := 12) (by omega) (by omega)), s226_21, if_neg i1_ne0, h.2.2.1.1]
  by_cases h0 : P.length = 0
  · refine ex_ret (.int (-4)) ⟨_, rfl⟩ hok (fun L mi ml Q h k => ?_) (fun L mi ml Q h k => ?_)
    · rw [C1 L mi ml Q h, h0, if_neg (by decide), s131_29, if_neg i1_ne0]; exact k mi ml h sameM_rf
    · rw [M1 L mi ml Q h, h0, if_pos (by decide)]; exact k mi ml h sameC_rf
  have hm6 := cntf_le (f := fB P (rep P D)) 6
  have hU : Uq p (cntf (fB P (rep P D)) 6) v < 2 ^ 62 := Uq_lt ⟨p, hp⟩ ⟨cntf (fB P (rep P D)) 6, by omega⟩ ⟨v, hv⟩
  refine ex_S (.int 1) (sChance (nL (Uq p (cntf (fB P (rep P D)) 6) v / Nat.gcd (Uq p (cntf (fB P (rep P D)) 6) v) (12 ^ cntf (fB P (rep P D)) 6))) (nL (12 ^ cntf (fB P (rep P D)) 6 / Nat.gcd (Uq p (cntf (fB P (rep P D)) 6) v) (12 ^ cntf (fB P (rep P D)) 6))) S) ⟨_, rfl⟩ hok (fun L mi ml Q h k => ?_) (fun L mi ml Q h k => ?_)
  · have h1 := Cst_scr (mi' := hvW mi (opX P (rep P D) (gP (rep P D))) (gP (rep P D)) 6) (ml' := lW ml (Lq p (cntf (fB P (rep P D)) 6)) 7) hP h (fun a j ha => hvW_ne (by omega) (by omega)) (fun a j ha => lW_ne ha)
    have h1' := Cst_scr (mi' := hvW mi (opX P (rep P D) (gP (rep P D))) (gP (rep P D)) 6) (ml' := ml) hP h (fun a j ha => hvW_ne (by omega) (by omega)) (fun _ _ _ => rfl)
    rw [C1 L mi ml Q h, if_pos ((nI_pos_iff (by omega)).mpr (by omega)), s131_29, if_pos rfl, c34 (d := 94) hok.1 hok.2.1 h.2.2.1, ret0, s131_42, c2 (d := 94) (g := rep P D) hok.1 h1'.1.2.2.1.1 (fun i hi => cG_pl h1'.1.2.2.1 hi) hvW_R (by omega) (by omega) hU, ret0, s131_55]
    have h2 := Cst_chance (a := nL (Uq p (cntf (fB P (rep P D)) 6) v / Nat.gcd (Uq p (cntf (fB P (rep P D)) 6) v) (12 ^ cntf (fB P (rep P D)) 6))) (b := nL (12 ^ cntf (fB P (rep P D)) 6 / Nat.gcd (Uq p (cntf (fB P (rep P D)) 6) v) (12 ^ cntf (fB P (rep P D)) 6))) h1.1
    exact k _ _ h2.1 (sameM_tr h1.2 h2.2)
  · have hF : sN (chF P (rep P D) (nI v) p) (2 ^ P.length) < 2 ^ 62 := by rw [ch_odds hP (by omega) (by omega)]; exact hU
    rw [M1 L mi ml Q h, if_neg (nI_ne0 (by omega) (by omega)), c225 (d := 92) (g := rep P D) hok.1 (by omega) hbb h.2.2.1.1 (mG_g h.2.2.1) (fun i hi => mG_pl h.2.2.1 hi) (by omega) hF, ret1, s226_44, ch_odds hP (by omega) (by omega)]
    exact k _ _ (Mst_chance h).1 (Mst_chance h).2
theorem op_mid (x2 : Int32) : OpI 132 227 [.int x2] := op_of fun R T P D K S hok => by
  have hP := hok.1.1
  have hD := hok.2.1.1
  have hb := rep_le P D
  have hbb : ∀ i, gW (rep P D) i < 100 ∧ gP (rep P D) i < 100 := fun i => by have := hb.2 i; omega
  have q0 : (0 : Int64) = (0 : Int32).toInt64 := rfl
  have q12 : (12 : Int64) = (nI 12).toInt64 := rfl
  rcases num_cases x2 13 (by omega) with hx | ⟨p, hp, rfl⟩
  · have hbad := in_bad (n := 12) (by omega) hx
    refine ex_ret (.int (-1)) ⟨_, rfl⟩ hok (fun L mi ml Q h k => ?_) (fun L mi ml Q h k => ?_)
    · rw [s132]
      by_cases h0 : x2 < 0
      · rw [if_pos h0]; exact k mi ml h sameM_rf
      · rw [if_neg h0, if_pos (show (12 : Int32) < x2 from Classical.byContradiction fun z => hbad ⟨h0, z⟩)]; exact k mi ml h sameM_rf
    · rw [s227, q0, q12, c149, ret1, bI_f hbad, s227_9, if_pos rfl]; exact k mi ml h sameC_rf
  have C1 : ∀ L mi ml Q, Cst R T P D K S mi ml → Xm 132 [.ref 2, .int (nI p)] (SH L, mi, ml, MR) 99 Q = X 132 19 [.ref 2, .int (nI p)] [.int (if (0 : Int32) < nI P.length then 0 else 1)] (SH L, mi, ml, MR) 99 Q := fun L mi ml Q h => by
    rw [s132, if_neg (nI_nneg (by omega)), if_neg (show ¬ (12 : Int32) < nI p from nI_nlt (a := 12) (by omega) (by omega)), s17, h.2.2.1.1]
    split <;> rw [ret1]
  have M1 : ∀ L mi ml Q, Mst R T P D K S mi ml → Xm 227 [.ref 68, .int (nI p)] (SH L, mi, ml, MR) 99 Q = if nI P.length = 0 then Q (some (.int (-4))) (SH L, mi, ml, MR) else Xm 225 [.ref 68, .int (-1), .int (nI p)] (SH L, mi, ml, MR) 98 (fun w μ' => X 227 32 [.ref 68, .int (nI p)] (w.toList ++ []) μ' 99 Q) := fun L mi ml Q h => by
    rw [s227, q0, q12, c149, ret1, bI_t (in_ok (n := 12) (by omega) (by omega)), s227_9, if_neg i1_ne0, h.2.2.1.1]
  by_cases h0 : P.length = 0
  · refine ex_ret (.int (-4)) ⟨_, rfl⟩ hok (fun L mi ml Q h k => ?_) (fun L mi ml Q h k => ?_)
    · rw [C1 L mi ml Q h, h0, if_neg (by decide), s132_19, if_neg i1_ne0]; exact k mi ml h sameM_rf
    · rw [M1 L mi ml Q h, h0, if_pos (by decide)]; exact k mi ml h sameC_rf
  have hm6 := cntf_le (f := fB P (rep P D)) 6
  refine ex_S (.int 1) (sChance (nL (sN (midG p (cntf (fB P (rep P D)) 6) (fun w => suchN (fB P (rep P D)) (wB P (rep P D)) w 6)) 9 / Nat.gcd (sN (midG p (cntf (fB P (rep P D)) 6) (fun w => suchN (fB P (rep P D)) (wB P (rep P D)) w 6)) 9) (12 ^ cntf (fB P (rep P D)) 6))) (nL (12 ^ cntf (fB P (rep P D)) 6 / Nat.gcd (sN (midG p (cntf (fB P (rep P D)) 6) (fun w => suchN (fB P (rep P D)) (wB P (rep P D)) w 6)) 9) (12 ^ cntf (fB P (rep P D)) 6))) S) ⟨_, rfl⟩ hok (fun L mi ml Q h k => ?_) (fun L mi ml Q h k => ?_)
  · have h1 := Cst_scr (mi' := hvW mi (opX P (rep P D) (gP (rep P D))) (gP (rep P D)) 6) (ml' := ml) hP h (fun a j ha => hvW_ne (by omega) (by omega)) (fun _ _ _ => rfl)
    rw [C1 L mi ml Q h, if_pos ((nI_pos_iff (by omega)).mpr (by omega)), s132_19, if_pos rfl, c34 (d := 94) hok.1 hok.2.1 h.2.2.1, ret0, s132_32, c3 (d := 94) (g := rep P D) hok.1 h1.1.2.2.1.1 (fun i hi => cG_pl h1.1.2.2.1 hi) hvW_R (by omega), ret0, s132_44]
    exact k _ _ (Cst_chance h1.1).1 (sameM_tr h1.2 (Cst_chance h1.1).2)
  · have e := ch_mid (P := P) (g := rep P D) (p := p) hP (by omega)
    have hF : sN (chF P (rep P D) (-1) p) (2 ^ P.length) < 2 ^ 62 := by rw [e]; exact midG_lt hm6
    rw [M1 L mi ml Q h, if_neg (nI_ne0 (by omega) (by omega)), c225 (d := 92) (g := rep P D) hok.1 (by omega) hbb h.2.2.1.1 (mG_g h.2.2.1) (fun i hi => mG_pl h.2.2.1 hi) (by omega) hF, ret1, s227_32, e]
    exact k _ _ (Mst_chance h).1 (Mst_chance h).2
