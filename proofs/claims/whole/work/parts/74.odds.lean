/-! odds, mid: the class -/
def fB (P : pP) (g : pG) (i : Nat) : Bool := decide (mayX P g (gP g) i)
def wB (P : pP) (g : pG) (i : Nat) : Nat := wordP (pl P i) (gP g i)
def lW (ml : Nat → Nat → Int64) (c : Nat → Nat) (n : Nat) : Nat → Nat → Int64 := fun b j => if b = 66 ∧ j < n then nL (c j) else ml b j
section LW
variable {ml : Nat → Nat → Int64} {n b j : Nat} {c e : Nat → Nat}
theorem lW_ne (h : b ≠ 66) : lW ml c n b j = ml b j := by
  unfold lW
  rw [if_neg (fun z => h z.1)]
theorem lW_at (h : j < n) : lW ml c n 66 j = nL (c j) := by
  unfold lW
  rw [if_pos ⟨rfl, h⟩]
theorem lW_0 : lW ml c 0 = ml := by
  funext b j
  unfold lW
  rw [if_neg (by omega)]
theorem lW_s : xw (lW ml c n) 66 n (nL (c n)) = lW ml c (n + 1) := by
  funext b j
  unfold xw lW
  by_cases h1 : b = 66
  · by_cases h2 : j = n
    · subst h1; subst h2; simp
    · simp [h1, h2]
      by_cases h3 : j < n
      · rw [if_pos h3, if_pos (by omega)]
      · rw [if_neg h3, if_neg (by omega)]
  · simp [h1]
theorem lW_up {w v : Nat} (h : w < n) : xw (lW ml c n) 66 w (nL v) = lW ml (up c w v) n := by
  funext b j
  unfold xw lW up
  by_cases h1 : b = 66
  · by_cases h2 : j = w
    · subst h1; subst h2; simp [h]
    · simp [h1, h2]
  · simp [h1]
theorem lW_ext (h : ∀ i, i < n → c i = e i) : lW ml c n = lW ml e n := by
  funext b j
  unfold lW
  by_cases hc : b = 66 ∧ j < n
  · rw [if_pos hc, if_pos hc, h j hc.2]
  · rw [if_neg hc, if_neg hc]
end LW
theorem such_0 {f : Nat → Bool} {wd : Nat → Nat} (n : Nat) : suchN f wd 0 n = cntf f n := sN_congr n (fun i _ => by simp)
theorem such_le {f : Nat → Bool} {wd : Nat → Nat} {w n : Nat} : suchN f wd w n ≤ n := by
  have h1 := such_oth (f := f) (wd := wd) (w := w) n
  have h2 := cntf_le (f := f) n
  omega
section ODDS
variable {P : pP} {g : pG} {L : Nat} {mi : Nat → Nat → Int32} {ml : Nat → Nat → Int64} {d : Nat} {Q : Option Value → xM → Prop} {p v w : Nat}
theorem c41 (hok : okP P) (hg : mi 38 2 = nI P.length) (hpl : ∀ i, i < P.length → plR mi (42 + i) (pl P i) (gW g i) (gP g i) (gE g i)) (h : hvR mi P g (gP g)) (hw : w < 100) : Xm 41 [.ref 48, .int (nI w)] (SH L, mi, ml, MR) (d + 3) Q = Q (some (.int (nI (suchN (fB P g) (wB P g) w 6)))) (SH L, mi, ml, MR) := by
  rw [s41]
  have hl := X_loop (mid := 41) (pc := 4) (d := d + 3) (Q := Q) (fun k => [.ref 48, .int (nI w), .int (nI (suchN (fB P g) (wB P g) w k)), .int (nI k)]) (fun k => (SH L, mi, ml, MR)) 6 (fun k hk => by
    have e : suchN (fB P g) (wB P g) w (k + 1) = suchN (fB P g) (wB P g) w k + (if fB P g k = true ∧ w ≤ wB P g k then 1 else 0) := rfl
    rw [s41_4, if_pos (show nI k < 6 from nI_lt (b := 6) hk (by omega)), c35 h hk, ret1, s41_16, e]
    by_cases hm : mayX P g (gP g) k
    · have hf : fB P g k = true := decide_eq_true hm
      have hwl := wordP_lt (pl P k) (gP g k)
      rw [bI_t hm, if_neg i1_ne0, c36 hok hg (hpl k hm.1) h hm.1 (by have := mayX_lt hm; omega), ret1, s41_24, nI_1, nI_1, nI_a0]
      by_cases hx : w ≤ wB P g k
      · rw [if_neg (show ¬ nI (wordP (pl P k) (gP g k)) < nI w from nI_nlt hx (by omega)), if_pos ⟨hf, hx⟩]
      · rw [if_pos (show nI (wordP (pl P k) (gP g k)) < nI w from nI_lt (Nat.lt_of_not_le hx) (by omega)), if_neg (fun z => hx z.2)]
    · have hf : ¬ fB P g k = true := by unfold fB; simp [hm]
      rw [bI_f hm, if_pos rfl, if_neg (fun z => hf z.1), nI_1, nI_a0])
  refine hl.trans ?_
  rw [s41_4, if_neg (by decide)]
theorem c2 (hok : okP P) (hg : mi 38 2 = nI P.length) (hpl : ∀ i, i < P.length → plR mi (42 + i) (pl P i) (gW g i) (gP g i) (gE g i)) (h : hvR mi P g (gP g)) (hv : v ≤ 6) (hp : p ≤ 12) (hU : Uq p (cntf (fB P g) 6) v < 2 ^ 62) : Xm 2 [.ref 65, .ref 48, .int (nI v), .int (nI p)] (SH L, mi, ml, MR) (d + 4) Q = Q none (SH L, mi, xw (xw (lW ml (Lq p (cntf (fB P g) 6)) 7) 65 1 (nL (Uq p (cntf (fB P g) 6) v / Nat.gcd (Uq p (cntf (fB P g) 6) v) (12 ^ cntf (fB P g) 6)))) 65 2 (nL (12 ^ cntf (fB P g) 6 / Nat.gcd (Uq p (cntf (fB P g) 6) v) (12 ^ cntf (fB P g) 6))), MR) := by
  have hm6 := cntf_le (f := fB P g) 6
  rw [s2]
  refine (c41 (w := 0) hok hg hpl h (by omega)).trans ?_
  rw [such_0, ret1, s2_5]
  generalize cntf (fB P g) 6 = m at hm6 hU
  have l1 := X_loop (mid := 2) (pc := 10) (d := d + 4) (Q := Q) (fun k => [.ref 65, .ref 48, .int (nI v), .int (nI p), .int (nI m), .int (nI k), xmk, xmk]) (fun k => (SH L, mi, lW ml (Lq p 0) k, MR)) 7 (fun k hk => by
    have es := lW_s (ml := ml) (c := Lq p 0) (n := k)
    rw [s2_10 (fun _ _ => xin_nI hk (by omega)) (fun _ _ => xin_nI hk (by omega)), if_pos (show nI k < 7 from nI_lt (b := 7) hk (by omega)), nI_clamp (by omega), nI_1, ← es]
    by_cases h0 : k = 0
    · subst h0
      rw [if_pos (by decide)]
      rfl
    · rw [if_neg (nI_ne0 (by omega) (by omega))]
      have e : Lq p 0 k = 0 := by unfold Lq; rw [if_neg h0]
      rw [e]
      rfl)
  rw [lW_0] at l1
  refine l1.trans ?_
  rw [s2_10 (fun z => absurd z (by decide)) (fun z => absurd z (by decide)), if_neg (by decide)]
  have l2 := X_loop (mid := 2) (pc := 46) (d := d + 4) (Q := Q) (fun k => [.ref 65, .ref 48, .int (nI v), .int (nI p), .int (nI m), .int (nI k), if k = 0 then xmk else .int (-1), xmk]) (fun k => (SH L, mi, lW ml (Lq p k) 7, MR)) m (fun k hk => by
    rw [s2_46g, if_pos (nI_lt hk (by omega))]
    have l3 := X_loop (mid := 2) (pc := 62) (d := d + 4) (Q := Q) (fun s => [.ref 65, .ref 48, .int (nI v), .int (nI p), .int (nI m), .int (nI k), .int (if s = 7 then -1 else nI (6 - s)), xmk]) (fun s => (SH L, mi, lW ml (fun j => if 7 ≤ j + s then Lq p (k + 1) j else Lq p k j) 7, MR)) 7 (fun s hs => by
      have ex : xin (nI (6 - s)) 7 = true := xin_nI (by omega) (by omega)
      have e12 : (12 - nI p).toInt64 = nL (12 - p) := by
        rw [show (12 : Int32) = nI 12 from rfl, nI_sub hp, nI_L (by omega)]
      have eq : Lq p (k + 1) (6 - s) = Lq p k (6 - s) * p + (if 6 - s = 0 then 0 else Lq p k (6 - s - 1) * (12 - p)) := rfl
      have eup : lW ml (up (fun j => if 7 ≤ j + s then Lq p (k + 1) j else Lq p k j) (6 - s) (Lq p (k + 1) (6 - s))) 7 = lW ml (fun j => if 7 ≤ j + (s + 1) then Lq p (k + 1) j else Lq p k j) 7 := lW_ext (fun i hi => by
        unfold up
        by_cases h1 : i = 6 - s
        · rw [if_pos h1, if_pos (by omega), h1]
        · rw [if_neg h1]
          show (if 7 ≤ i + s then _ else _) = _
          by_cases h2 : 7 ≤ i + s
          · rw [if_pos h2, if_pos (by omega)]
          · rw [if_neg h2, if_neg (by omega)])
      rw [if_neg (show ¬ s = 7 by omega), s2_62 (fun _ => ex) (fun _ z => by
        have := (nI_pos_iff (by omega)).mp z
        rw [show nI (6 - s) - 1 = nI (6 - s - 1) from nI_sub (b := 1) (by omega)]
        exact xin_nI (by omega) (by omega)) (fun _ _ => ex) (fun _ _ => ex), if_neg (nI_nneg (by omega)), nI_clamp (by omega), lW_at (by omega), if_neg (show ¬ 7 ≤ 6 - s + s by omega), nI_L (by omega), e12]
      by_cases h6 : s = 6
      · subst h6
        rw [if_neg (show ¬ (0 : Int32) < nI (6 - 6) by decide), nL_mul, show nL (Lq p k (6 - 6) * p) + 0 = nL (Lq p k (6 - 6) * p + 0) from nL_add _ 0]
        rw [if_pos (show 6 - 6 = 0 from rfl)] at eq
        rw [← eq, lW_up (by omega), eup]
        rfl
      · rw [if_pos ((nI_pos_iff (by omega)).mpr (show 0 < 6 - s by omega)), show nI (6 - s) - 1 = nI (6 - s - 1) from nI_sub (b := 1) (by omega), nI_clamp (by omega), lW_at (by omega), if_neg (show ¬ 7 ≤ 6 - s - 1 + s by omega), nL_mul, nL_mul, nL_add]
        rw [if_neg (show ¬ 6 - s = 0 by omega)] at eq
        rw [← eq, lW_up (by omega), eup, if_neg (show ¬ s + 1 = 7 by omega)]
        have e1 : nI (6 - s) + (-1) = nI (6 - (s + 1)) := by
          rw [show nI (6 - s) + (-1) = nI (6 - s) - 1 from (Int32.sub_eq_add_neg _ _).symm, show nI (6 - s) - 1 = nI (6 - s - 1) from nI_sub (b := 1) (by omega)]
          rfl
        rw [e1])
    have ea : lW ml (fun j => if 7 ≤ j + 0 then Lq p (k + 1) j else Lq p k j) 7 = lW ml (Lq p k) 7 := lW_ext (fun i hi => if_neg (by omega))
    have eb : lW ml (fun j => if 7 ≤ j + 7 then Lq p (k + 1) j else Lq p k j) 7 = lW ml (Lq p (k + 1)) 7 := lW_ext (fun i hi => if_pos (by omega))
    rw [ea, eb] at l3
    refine l3.trans ?_
    rw [if_pos rfl, s2_62 (fun z => absurd (show (-1 : Int32) < 0 by decide) z) (fun z => absurd (show (-1 : Int32) < 0 by decide) z) (fun z => absurd (show (-1 : Int32) < 0 by decide) z) (fun z => absurd (show (-1 : Int32) < 0 by decide) z), if_pos (show (-1 : Int32) < 0 by decide), nI_1]
    simp only [if_neg (Nat.succ_ne_zero k)])
  refine l2.trans ?_
  rw [s2_46g, if_neg (nI_nlt (by omega) (by omega)), if_neg (nI_nneg (by omega))]
  have l4 := X_loop (mid := 2) (pc := 131) (d := d + 4) (Q := Q) (fun i => [.ref 65, .ref 48, .int (nI v), .int (nI p), .int (nI m), .long (nL (sN (fun j => if v ≤ j then Lq p m j else 0) (v + i))), xmk, .int (nI (v + i))]) (fun _ => (SH L, mi, lW ml (Lq p m) 7, MR)) (7 - v) (fun i hi => by
    rw [s2_131 (fun _ => xin_nI (by omega) (by omega)), if_pos (show nI (v + i) < 7 from nI_lt (b := 7) (by omega) (by omega)), nI_clamp (by omega), lW_at (by omega), nL_add, nI_1]
    have e : sN (fun j => if v ≤ j then Lq p m j else 0) (v + (i + 1)) = sN (fun j => if v ≤ j then Lq p m j else 0) (v + i) + Lq p m (v + i) := by
      show sN (fun j => if v ≤ j then Lq p m j else 0) (v + i) + (if v ≤ v + i then Lq p m (v + i) else 0) = _
      rw [if_pos (by omega)]
    rw [e]
    rfl)
  have e0 : sN (fun j => if v ≤ j then Lq p m j else 0) (v + 0) = 0 := by
    rw [sN_congr (G := fun _ => 0) (v + 0) (fun i hi => if_neg (by omega))]
    exact sN_zero _
  rw [e0] at l4
  refine l4.trans ?_
  rw [show v + (7 - v) = 7 by omega, s2_131 (fun z => absurd z (by decide)), if_neg (by decide)]
  refine (c4 (b := 12) (n := m) (by omega)).trans ?_
  have h12 : 12 ^ m ≤ 12 ^ 6 := Nat.pow_le_pow_right (by omega) hm6
  have h120 : 0 < 12 ^ m := Nat.pow_pos (by omega)
  have h126 : (12 : Nat) ^ 6 = 2985984 := rfl
  rw [ret1, show sN (fun j => if v ≤ j then Lq p m j else 0) 7 = Uq p m v from rfl, s2_170, c1 (u := Uq p m v) hU (by omega) h120, ret0, s2_173]
def midG (p m : Nat) (s : Nat → Nat) (w : Nat) : Nat := 12 ^ m - p ^ s (w + 1) * 12 ^ (m - s (w + 1))
theorem c3 (hok : okP P) (hg : mi 38 2 = nI P.length) (hpl : ∀ i, i < P.length → plR mi (42 + i) (pl P i) (gW g i) (gP g i) (gE g i)) (h : hvR mi P g (gP g)) (hp : p ≤ 12) : Xm 3 [.ref 65, .ref 48, .int (nI p)] (SH L, mi, ml, MR) (d + 4) Q = Q none (SH L, mi, xw (xw ml 65 1 (nL (sN (midG p (cntf (fB P g) 6) (fun w => suchN (fB P g) (wB P g) w 6)) 9 / Nat.gcd (sN (midG p (cntf (fB P g) 6) (fun w => suchN (fB P g) (wB P g) w 6)) 9) (12 ^ cntf (fB P g) 6)))) 65 2 (nL (12 ^ cntf (fB P g) 6 / Nat.gcd (sN (midG p (cntf (fB P g) 6) (fun w => suchN (fB P g) (wB P g) w 6)) 9) (12 ^ cntf (fB P g) 6))), MR) := by
  have hm6 := cntf_le (f := fB P g) 6
  have hle : ∀ w, suchN (fB P g) (wB P g) w 6 ≤ cntf (fB P g) 6 := fun w => by
    have := such_oth (f := fB P g) (wd := wB P g) (w := w) 6
    omega
  rw [s3]
  refine (c41 (w := 0) hok hg hpl h (by omega)).trans ?_
  rw [such_0, ret1, s3_5]
  generalize hS : (fun w => suchN (fB P g) (wB P g) w 6) = s
  have hs : ∀ w, suchN (fB P g) (wB P g) w 6 = s w := fun w => by rw [← hS]
  simp only [hs] at hle
  generalize cntf (fB P g) 6 = m at hm6 hle
  have h12 : 12 ^ m ≤ 12 ^ 6 := Nat.pow_le_pow_right (by omega) hm6
  have h120 : 0 < 12 ^ m := Nat.pow_pos (by omega)
  have h126 : (12 : Nat) ^ 6 = 2985984 := rfl
  refine (c4 (b := 12) (n := m) (by omega)).trans ?_
  rw [ret1, s3_13]
  have hl := X_loop (mid := 3) (pc := 21) (d := d + 4) (Q := Q) (fun i => [.ref 65, .ref 48, .int (nI p), .int (nI m), .long (nL (12 ^ m)), xmk, .long (nL (sN (midG p m s) i)), xmk, .int (nI (i + 1)), if i = 0 then xmk else .int (nI (s i))]) (fun _ => (SH L, mi, ml, MR)) 9 (fun i hi => by
    have hsi := hle (i + 1)
    have hpw : p ^ s (i + 1) * 12 ^ (m - s (i + 1)) ≤ 12 ^ m := by
      have h1 : p ^ s (i + 1) ≤ 12 ^ s (i + 1) := Nat.pow_le_pow_left hp _
      have h2 : 12 ^ m = 12 ^ s (i + 1) * 12 ^ (m - s (i + 1)) := by rw [← Nat.pow_add]; congr 1; omega
      rw [h2]
      exact Nat.mul_le_mul_right _ h1
    rw [s3_21g, if_pos (show nI (i + 1) < 10 from nI_lt (b := 10) (by omega) (by omega)), c41 hok hg hpl h (by omega), hs, ret1, s3_34g, nI_L (by omega), c4 (by omega), ret1, s3_47, nI_sub hsi]
    refine (c4 (b := 12) (n := m - s (i + 1)) (by omega)).trans ?_
    rw [ret1, s3_57, nL_mul, nL_sub hpw, nL_add, nI_1]
    rfl)
  refine hl.trans ?_
  have hb : sN (midG p m s) 9 < 2 ^ 62 := by
    have hb1 : ∀ n, sN (midG p m s) n ≤ n * 12 ^ m := by
      intro n
      induction n with
      | zero => exact Nat.zero_le _
      | succ n ih =>
        have hmg : midG p m s n ≤ 12 ^ m := Nat.sub_le _ _
        show sN (midG p m s) n + midG p m s n ≤ (n + 1) * 12 ^ m
        rw [Nat.succ_mul]
        omega
    have := hb1 9
    omega
  rw [s3_21g, if_neg (by decide), c1 hb (by omega) h120, ret0, s3_76g]
end ODDS
