/-! guess, listen -/
def cV (xs : List Int32) (pod : Nat) : Nat → Nat → Nat
  | 0 => fun _ => 0
  | t + 1 => if fitB xs (t / 10) (t % 10) = true then up (cV xs pod t) (wordN (t / 10) (t % 10) pod) (cV xs pod t (wordN (t / 10) (t % 10) pod) + 1) else cV xs pod t
def mxN (c : Nat → Nat) : Nat → Nat
  | 0 => 0
  | n + 1 => max (mxN c n) (c n)
theorem mxN_ext {c e : Nat → Nat} : ∀ n, (∀ i, i < n → c i = e i) → mxN c n = mxN e n := by
  intro n
  induction n with
  | zero => intro _; rfl
  | succ n ih =>
    intro h
    unfold mxN
    rw [ih (fun i hi => h i (by omega)), h n (by omega)]
theorem mxN_up {c : Nat → Nat} {w : Nat} : ∀ n, w < n → mxN (up c w (c w + 1)) n = max (mxN c n) (c w + 1) := by
  intro n
  induction n with
  | zero => intro h; omega
  | succ n ih =>
    intro h
    unfold mxN
    by_cases hw : w = n
    · subst hw
      have e : mxN (up c w (c w + 1)) w = mxN c w := mxN_ext w (fun i hi => by unfold up; rw [if_neg (by omega)])
      have e2 : up c w (c w + 1) w = c w + 1 := by unfold up; rw [if_pos rfl]
      rw [e, e2]
      omega
    · have e2 : up c w (c w + 1) n = c n := by unfold up; rw [if_neg (by omega)]
      rw [ih (by omega), e2]
      omega
theorem mxN_le {c : Nat → Nat} {b : Nat} : ∀ n, (∀ i, c i ≤ b) → mxN c n ≤ b := by
  intro n
  induction n with
  | zero => intro _; exact Nat.zero_le _
  | succ n ih =>
    intro h
    have h1 := ih h
    have h2 := h n
    unfold mxN
    omega
theorem cV_le (xs : List Int32) (pod : Nat) : ∀ t w, cV xs pod t w ≤ t := by
  intro t
  induction t with
  | zero => intro w; exact Nat.le_refl _
  | succ t ih =>
    intro w
    have h1 := ih w
    have h2 := ih (wordN (t / 10) (t % 10) pod)
    unfold cV
    split
    · unfold up
      split <;> omega
    · omega
theorem cV_zero (xs : List Int32) (pod : Nat) : ∀ t, (∀ u, u < t → ¬ fitB xs (u / 10) (u % 10) = true) → cV xs pod t = fun _ => 0 := by
  intro t
  induction t with
  | zero => intro _; rfl
  | succ t ih =>
    intro h
    unfold cV
    rw [if_neg (h t (by omega))]
    exact ih (fun u hu => h u (by omega))
theorem mx_zero : ∀ n, mxN (fun _ => 0) n = 0 := by
  intro n
  induction n with
  | zero => rfl
  | succ n ih => unfold mxN; rw [ih]; rfl
theorem cV_pos (xs : List Int32) (pod : Nat) : ∀ t, (∃ u, u < t ∧ fitB xs (u / 10) (u % 10) = true) → 0 < mxN (cV xs pod t) 10 := by
  intro t
  induction t with
  | zero => rintro ⟨u, hu, _⟩; omega
  | succ t ih =>
    rintro ⟨u, hu, hf⟩
    unfold cV
    by_cases h : fitB xs (t / 10) (t % 10) = true
    · rw [if_pos h, mxN_up 10 (wordN_lt _ _ _)]
      omega
    · rw [if_neg h]
      refine ih ⟨u, ?_, hf⟩
      rcases Nat.lt_or_ge u t with h1 | h1
      · exact h1
      · exact absurd (by rw [show u = t by omega] at hf; exact hf) h
def arW (mi : Nat → Nat → Int32) (a : Nat) (c : Nat → Nat) (n : Nat) : Nat → Nat → Int32 := fun b j => if b = a ∧ j < n then nI (c j) else mi b j
section ARW
variable {mi : Nat → Nat → Int32} {a n b j : Nat} {c e : Nat → Nat}
theorem arW_ne (h : b ≠ a) : arW mi a c n b j = mi b j := by
  unfold arW
  rw [if_neg (fun z => h z.1)]
theorem arW_at (h : j < n) : arW mi a c n a j = nI (c j) := by
  unfold arW
  rw [if_pos ⟨rfl, h⟩]
theorem arW_0 : arW mi a c 0 = mi := by
  funext b j
  unfold arW
  rw [if_neg (by omega)]
theorem arW_s : xw (arW mi a c n) a n (nI (c n)) = arW mi a c (n + 1) := by
  funext b j
  unfold xw arW
  by_cases h1 : b = a
  · by_cases h2 : j = n
    · subst h1; subst h2; simp
    · simp [h1, h2]
      by_cases h3 : j < n
      · rw [if_pos h3, if_pos (by omega)]
      · rw [if_neg h3, if_neg (by omega)]
  · simp [h1]
theorem arW_up {w v : Nat} (h : w < n) : xw (arW mi a c n) a w (nI v) = arW mi a (up c w v) n := by
  funext b j
  unfold xw arW up
  by_cases h1 : b = a
  · by_cases h2 : j = w
    · subst h1; subst h2; simp [h]
    · simp [h1, h2]
  · simp [h1]
theorem arW_id {w : Nat} (h : w < n) : xw (arW mi a c n) a w (nI (c w)) = arW mi a c n := by
  rw [arW_up h]
  congr 1
  funext i
  unfold up
  split
  · rename_i h; rw [h]
  · rfl
theorem arW_arW : arW (arW mi a c n) a e n = arW mi a e n := by
  funext b j
  unfold arW
  split
  · rfl
  · rfl
end ARW
theorem nI_max {x y : Nat} (hx : x < 2 ^ 31) (hy : y < 2 ^ 31) : (if nI x < nI y then nI y else nI x) = nI (max x y) := by
  by_cases h : x < y
  · rw [if_pos (nI_lt h hy), Nat.max_eq_right (by omega)]
  · rw [if_neg (nI_nlt (by omega) (by omega)), Nat.max_eq_left (by omega)]
section GUESS
variable {R T : pR} {L : Nat} {mi : Nat → Nat → Int32} {ml : Nat → Nat → Int64} {d : Nat} {Q : Option Value → xM → Prop} {kind seed r pod : Nat} {xs : List Int32}
theorem clR_ar {c : Nat → Nat} {n : Nat} (h : clR mi xs) : clR (arW mi 64 c n) xs := fun j hj => by rw [arW_ne (by omega)]; exact h j hj
theorem idx {k s : Nat} (hs : s < 10) : (10 * k + s) / 10 = k ∧ (10 * k + s) % 10 = s := by omega
theorem cV_yes {k s : Nat} (hs : s < 10) (hf : fitB xs k s = true) : cV xs pod (10 * k + s + 1) = up (cV xs pod (10 * k + s)) (wordN k s pod) (cV xs pod (10 * k + s) (wordN k s pod) + 1) := by
  have e := idx (k := k) hs
  show (if _ then _ else _) = _
  rw [e.1, e.2, if_pos hf]
theorem cV_no {k s : Nat} (hs : s < 10) (hf : ¬ fitB xs k s = true) : cV xs pod (10 * k + s + 1) = cV xs pod (10 * k + s) := by
  have e := idx (k := k) hs
  show (if _ then _ else _) = _
  rw [e.1, e.2, if_neg hf]
theorem c12 (h : clR mi xs) (hp : pod < 9) : Xm 12 [.ref 62, .int (nI pod)] (SH L, mi, ml, MR) (d + 2) Q = Q (some (.int (nI (mxN (cV xs pod 60) 10)))) (SH L, arW mi 64 (cV xs pod 60) 10, ml, MR) := by
  rw [s12]
  have l1 := X_loop (mid := 12) (pc := 2) (d := d + 2) (Q := Q) (fun k => [.ref 62, .int (nI pod), .int (nI k), xmk, xmk, xmk]) (fun k => (SH L, arW mi 64 (cV xs pod 0) k, ml, MR)) 10 (fun k hk => by
    have e := arW_s (mi := mi) (a := 64) (c := cV xs pod 0) (n := k)
    rw [s12_2 (fun _ => xin_nI hk (by omega)), if_pos (show nI k < 10 from nI_lt (b := 10) hk (by omega)), nI_clamp (by omega), nI_1, ← e]
    rfl)
  rw [arW_0] at l1
  refine l1.trans ?_
  rw [s12_2 (fun z => absurd z (by decide)), if_neg (by decide)]
  have l2 := X_loop (mid := 12) (pc := 28) (d := d + 2) (Q := Q) (fun k => [.ref 62, .int (nI pod), .int (nI (mxN (cV xs pod (10 * k)) 10)), .int (nI k), if k = 0 then xmk else .int (nI 10), if k = 0 then xmk else .int (nI (wordN (k - 1) 9 pod))]) (fun k => (SH L, arW mi 64 (cV xs pod (10 * k)) 10, ml, MR)) 6 (fun k hk => by
    rw [s12_28g, if_pos (show nI k < 6 from nI_lt (b := 6) hk (by omega))]
    generalize (if k = 0 then xmk else .int (nI (wordN (k - 1) 9 pod))) = u5
    have l3 := X_loop (mid := 12) (pc := 37) (d := d + 2) (Q := Q) (fun s => [.ref 62, .int (nI pod), .int (nI (mxN (cV xs pod (10 * k + s)) 10)), .int (nI k), .int (nI s), if s = 0 then u5 else .int (nI (wordN k (s - 1) pod))]) (fun s => (SH L, arW mi 64 (cV xs pod (10 * k + s)) 10, ml, MR)) 10 (fun s hs => by
      have hw := wordN_lt k s pod
      have hcl := cV_le xs pod (10 * k + s) (wordN k s pod)
      have hml := mxN_le (c := cV xs pod (10 * k + s)) 10 (cV_le xs pod (10 * k + s))
      rw [s12_37g, if_pos (show nI s < 10 from nI_lt (b := 10) hs (by omega)), c48 hk (by omega) (by omega), ret1, s12_51g, c9 (clR_ar h) hk hs, ret1, s12_60 (fun _ _ _ => xin_nI hw (by omega)) (fun _ _ _ => xin_nI hw (by omega)) (fun _ _ _ => xin_nI hw (by omega)), if_neg (nI_nneg (by omega)), if_pos (show nI (wordN k s pod) < 10 from nI_lt (b := 10) hw (by omega)), nI_clamp (by omega), arW_at hw, nI_1, nI_1, arW_up hw, arW_at hw]
      simp only [if_neg (Nat.succ_ne_zero s), Nat.add_sub_cancel]
      by_cases hf : fitB xs k s = true
      · rw [bI_t hf, if_neg i1_ne0, show up (cV xs pod (10 * k + s)) (wordN k s pod) (cV xs pod (10 * k + s) (wordN k s pod) + 1) (wordN k s pod) = cV xs pod (10 * k + s) (wordN k s pod) + 1 by unfold up; rw [if_pos rfl], nI_max (by omega) (by omega), ← mxN_up 10 hw, ← cV_yes hs hf]
        rfl
      · rw [bI_f hf, if_pos rfl, ← cV_no hs hf]
        rfl)
    simp only [if_true, Nat.add_zero] at l3
    refine l3.trans ?_
    rw [s12_37g, if_neg (by decide), nI_1]
    simp only [if_neg (Nat.succ_ne_zero k), Nat.add_sub_cancel]
    rfl)
  have e0 : mxN (cV xs pod (10 * 0)) 10 = 0 := mx_zero 10
  simp only [if_true] at l2
  rw [e0] at l2
  refine l2.trans ?_
  rw [s12_28g, if_neg (by decide)]
theorem seen_up {c : Nat → Nat} {w : Nat} : (fun v => decide (0 < up c w (c w + 1) v)) = up (fun v => decide (0 < c v)) w true := by
  funext v
  unfold up
  split
  · simp
  · rfl
theorem c11 (h : clR mi xs) (hp : pod < 9) : Xm 11 [.ref 62, .int (nI pod)] (SH L, mi, ml, MR) (d + 2) Q = Q (some (.int (nI (maskN (fun v => decide (0 < cV xs pod 60 v)) 10)))) (SH L, mi, ml, MR) := by
  rw [s11]
  have l2 := X_loop (mid := 11) (pc := 4) (d := d + 2) (Q := Q) (fun k => [.ref 62, .int (nI pod), .int (nI (maskN (fun v => decide (0 < cV xs pod (10 * k) v)) 10)), .int (nI k), if k = 0 then xmk else .int (nI 10)]) (fun k => (SH L, mi, ml, MR)) 6 (fun k hk => by
    rw [s11_4g, if_pos (show nI k < 6 from nI_lt (b := 6) hk (by omega))]
    have l3 := X_loop (mid := 11) (pc := 13) (d := d + 2) (Q := Q) (fun s => [.ref 62, .int (nI pod), .int (nI (maskN (fun v => decide (0 < cV xs pod (10 * k + s) v)) 10)), .int (nI k), .int (nI s)]) (fun s => (SH L, mi, ml, MR)) 10 (fun s hs => by
      have hw := wordN_lt k s pod
      rw [s11_13, if_pos (show nI s < 10 from nI_lt (b := 10) hs (by omega)), c9 h hk hs, ret1, s11_28, i32_or0]
      by_cases hf : fitB xs k s = true
      · rw [bI_t hf, if_neg i1_ne0, c48 hk (by omega) (by omega), ret1, s11_39, or_up10 hw, nI_1, ← seen_up, ← cV_yes hs hf]
        rfl
      · rw [bI_f hf, if_pos rfl, nI_1, ← cV_no hs hf]
        rfl)
    simp only [Nat.add_zero] at l3
    refine l3.trans ?_
    rw [s11_13, if_neg (by decide), nI_1]
    simp only [if_neg (Nat.succ_ne_zero k)]
    rfl)
  refine Eq.trans ?_ (l2.trans ?_)
  · rfl
  · rw [s11_4g, if_neg (by decide)]
/-! the model's -/
theorem c219 (hr : r < 6) (h : mR R mi) (hR : R r = some xs) (hev : xs.length = 2 * (xs.length / 2)) (hg : ∀ i, i < xs.length / 2 → goodA xs i) (hp : pod < 9) : Xm 219 [.ref 68, .int (nI pod), .int (nI r)] (SH L, mi, ml, MR) (d + 2) Q = Q (some (.int (nI (mxN (cV xs pod 60) 10)))) (SH L, arW mi 86 (cV xs pod 60) 10, ml, MR) := by
  rw [s219]
  have l1 := X_loop (mid := 219) (pc := 2) (d := d + 2) (Q := Q) (fun k => [.ref 68, .int (nI pod), .int (nI r), .int (nI k), xmk]) (fun k => (SH L, arW mi 86 (cV xs pod 0) k, ml, MR)) 10 (fun k hk => by
    have e := arW_s (mi := mi) (a := 86) (c := cV xs pod 0) (n := k)
    rw [s219_2 (fun _ => xin_nI hk (by omega)), if_pos (show nI k < 10 from nI_lt (b := 10) hk (by omega)), nI_clamp (by omega), nI_1, ← e]
    rfl)
  rw [arW_0] at l1
  refine l1.trans ?_
  rw [s219_2 (fun z => absurd z (by decide)), if_neg (by decide)]
  have l2 := X_loop (mid := 219) (pc := 23) (d := d + 2) (Q := Q) (fun k => [.ref 68, .int (nI pod), .int (nI r), .int (nI k), if k = 0 then xmk else .int (nI 10)]) (fun k => (SH L, arW mi 86 (cV xs pod (10 * k)) 10, ml, MR)) 6 (fun k hk => by
    rw [s219_23g, if_pos (show nI k < 6 from nI_lt (b := 6) hk (by omega))]
    have l3 := X_loop (mid := 219) (pc := 32) (d := d + 2) (Q := Q) (fun s => [.ref 68, .int (nI pod), .int (nI r), .int (nI k), .int (nI s)]) (fun s => (SH L, arW mi 86 (cV xs pod (10 * k + s)) 10, ml, MR)) 10 (fun s hs => by
      have hw := wordN_lt k s pod
      have h' : mR R (arW mi 86 (cV xs pod (10 * k + s)) 10) := mR_congr h (fun j => arW_ne (by omega)) (fun j => arW_ne (by omega))
      rw [s219_32, if_pos (show nI s < 10 from nI_lt (b := 10) hs (by omega)), c179 hk (by omega) (by omega), ret1, s219_50 (xin_nI hw (by omega)), c216 hr h' hR hev hg hk hs, ret1, s219_60 (fun _ => xin_nI hw (by omega)) (fun _ => xin_nI hw (by omega)), nI_clamp (by omega), arW_at hw, nI_1, nI_1, nI_a0]
      by_cases hf : fitB xs k s = true
      · rw [bI_t hf, if_neg i1_ne0, arW_up hw, ← cV_yes hs hf]
        rfl
      · rw [bI_f hf, if_pos rfl, show cV xs pod (10 * k + s) (wordN k s pod) + 0 = cV xs pod (10 * k + s) (wordN k s pod) from rfl, arW_id hw, ← cV_no hs hf]
        rfl)
    simp only [Nat.add_zero] at l3
    refine l3.trans ?_
    rw [s219_32, if_neg (by decide), nI_1]
    simp only [if_neg (Nat.succ_ne_zero k)]
    rfl)
  simp only [if_true] at l2
  refine l2.trans ?_
  rw [s219_23g, if_neg (by decide)]
  have l4 := X_loop (mid := 219) (pc := 87) (d := d + 2) (Q := Q) (fun k => [.ref 68, .int (nI pod), .int (nI r), .int (nI (mxN (cV xs pod 60) k)), .int (nI k)]) (fun k => (SH L, arW mi 86 (cV xs pod 60) 10, ml, MR)) 10 (fun k hk => by
    have hcl := cV_le xs pod 60 k
    have hml := mxN_le (c := cV xs pod 60) k (cV_le xs pod 60)
    have e := nI_max (x := mxN (cV xs pod 60) k) (y := cV xs pod 60 k) (by omega) (by omega)
    rw [s219_87 (fun _ => xin_nI hk (by omega)) (fun _ _ => xin_nI hk (by omega)), if_pos (show nI k < 10 from nI_lt (b := 10) hk (by omega)), nI_clamp (by omega), arW_at hk, nI_1]
    show _ = X 219 87 [.ref 68, _, _, .int (nI (max (mxN (cV xs pod 60) k) (cV xs pod 60 k))), _] _ _ _ _
    rw [← e]
    split <;> rfl)
  refine l4.trans ?_
  rw [s219_87 (fun z => absurd z (by decide)) (fun z => absurd z (by decide)), if_neg (by decide)]
end GUESS
theorem op_guess (x1 x2 x3 : Int32) : OpI 128 220 [.int x1, .int x2, .int x3] := op_of fun R T P D K S hok => by
  have hP := hok.1.1
  rcases num_cases x1 P.length (by omega) with hx | ⟨i, hi, rfl⟩
  · refine ex_ret (.int (-1)) ⟨_, rfl⟩ hok (fun L mi ml Q h k => ?_) (fun L mi ml Q h k => ?_)
    · rw [s128, c15_out h.2.2.1.1 hx, ret1, s128_8n]; exact k mi ml h sameM_rf
    · rw [s220, c172, ret1, h.2.2.1.1, bI_f (isP_out hP hx), s220_5, if_pos rfl]; exact k mi ml h sameC_rf
  have hS := fun L => (shPlant L (i := i) (by omega)).1
  rcases num_cases x2 9 (by omega) with hx | ⟨pod, hpod, rfl⟩
  · refine ex_ret (.int (-1)) ⟨_, rfl⟩ hok (fun L mi ml Q h k => ?_) (fun L mi ml Q h k => ?_)
    · rw [s128, c15_in hP h.2.2.1.1 hi, ret1, s128_8 (hS L), c142_out hx, ret1, s128_15, if_pos rfl]; exact k mi ml h sameM_rf
    · rw [s220, c172, ret1, h.2.2.1.1, bI_t (isP_in hi hP), s220_5, if_neg i1_ne0, c173, ret1, bI_f (in_bad (n := 8) (by omega) hx), s220_12, if_pos rfl]; exact k mi ml h sameC_rf
  rcases num_cases x3 6 (by omega) with hx | ⟨r, hr, rfl⟩
  · refine ex_ret (.int (-1)) ⟨_, rfl⟩ hok (fun L mi ml Q h k => ?_) (fun L mi ml Q h k => ?_)
    · rw [s128, c15_in hP h.2.2.1.1 hi, ret1, s128_8 (hS L), c142_in hpod, ret1, s128_15, if_neg i1_ne0, c82n (shRows L) (by omega) (by omega) hx, ret1, s128_29n, s147n, ret1, s128_32, if_neg (by decide)]; exact k mi ml h sameM_rf
    · rw [s220, c172, ret1, h.2.2.1.1, bI_t (isP_in hi hP), s220_5, if_neg i1_ne0, c173, ret1, bI_t (in_ok (n := 8) (by omega) (by omega)), s220_12, if_neg i1_ne0, c155, ret1, bI_f (in_bad (n := 5) (by omega) hx), s220_19, if_pos rfl]; exact k mi ml h sameC_rf
  have hpw := pw_lt (R r)
  have C1 : ∀ L mi ml Q, Cst R T P D K S mi ml → Xm 128 [.ref 2, .int (nI i), .int (nI pod), .int (nI r)] (SH L, mi, ml, MR) 99 Q = Xm 147 [.ref 2, .ref (3 + 2 + 2 * r)] (SH L, mi, ml, MR) 98 (fun v μ' => X 128 32 [.ref 2, .int (nI i), .int (nI pod), .int (nI r), xmk] (v.toList ++ []) μ' 99 Q) := fun L mi ml Q h => by
    rw [s128, c15_in hP h.2.2.1.1 hi, ret1, s128_8 (hS L), c142_in hpod, ret1, s128_15, if_neg i1_ne0, c82 (shRows L) (by omega) hr, ret1, s128_29 (strip_row hr)]
  have M1 : ∀ L mi ml Q, Mst R T P D K S mi ml → Xm 220 [.ref 68, .int (nI i), .int (nI pod), .int (nI r)] (SH L, mi, ml, MR) 99 Q = X 220 29 [.ref 68, .int (nI i), .int (nI pod), .int (nI r), xmk, xmk, xmk, xmk] [.int (nI (pw (R r)))] (SH L, mi, ml, MR) 99 Q := fun L mi ml Q h => by
    rw [s220, c172, ret1, h.2.2.1.1, bI_t (isP_in hi hP), s220_5, if_neg i1_ne0, c173, ret1, bI_t (in_ok (n := 8) (by omega) (by omega)), s220_12, if_neg i1_ne0, c155, ret1, bI_t (in_ok (n := 5) (by omega) (by omega)), s220_19, if_neg i1_ne0, c215 (d := 96) hr h.1, ret1]
  by_cases hp : pw (R r) = 0
  · obtain ⟨xs, hR, hev, hg⟩ := pw_0 hp
    refine ex_ret (.int (nI (maskN (fun v => decide (0 < cV xs pod 60 v)) 10))) ⟨_, rfl⟩ hok (fun L mi ml Q h k => ?_) (fun L mi ml Q h k => ?_)
    · obtain ⟨hst, hln⟩ := h.1 r hr
      rw [hR] at hst
      have hC := Cst_cl (xs := xs) hP h
      rw [C1 L mi ml Q h, c147_ok (d := 95) (strip_row hr) (by omega) hst (by omega) (hln xs hR) hev hg, ret1, s128_32, if_pos rfl, c11 (d := 96) clW_R hpod, ret1, s128_52]
      exact k _ _ hC.1 hC.2
    · have hM := Mst_scr (mi' := arW mi 86 (cV xs pod 60) 10) h (fun j _ => arW_ne (by omega)) (fun a j _ _ => arW_ne (by omega))
      rw [M1 L mi ml Q h, hp, s220_29, if_pos (by decide), c219 (d := 96) hr h.1 hR hev hg hpod, ret1, s220_49]
      generalize nI (mxN (cV xs pod 60) 10) = y
      have hl := X_loop (mid := 220) (pc := 57) (d := 99) (Q := Q) (fun s => [.ref 68, .int (nI i), .int (nI pod), .int (nI r), .int (nI 0), .int y, .int (nI (maskN (fun v => decide (0 < cV xs pod 60 v)) s)), .int (nI s)]) (fun _ => (SH L, arW mi 86 (cV xs pod 60) 10, ml, MR)) 10 (fun s hs => by
        have hcl := cV_le xs pod 60 s
        rw [s220_57 (fun _ => xin_nI (by omega) (by omega)), if_pos (show nI s < 10 from nI_lt (b := 10) hs (by omega)), nI_clamp (by omega), arW_at hs, mask_or10 hs, i32_or0, nI_1]
        show _ = X 220 57 [.ref 68, _, _, _, _, _, .int (nI (maskN (fun v => decide (0 < cV xs pod 60 v)) s + (if decide (0 < cV xs pod 60 s) = true then 2 ^ s else 0))), _] _ _ _ _
        by_cases hf : 0 < cV xs pod 60 s
        · rw [if_pos ((nI_pos_iff (by omega)).mpr hf), if_pos (decide_eq_true hf)]
        · rw [if_neg (fun z => hf ((nI_pos_iff (by omega)).mp z)), if_neg (by simp [hf])]
          rfl)
      refine Eq.mpr hl ?_
      rw [s220_57 (fun z => absurd z (by decide)), if_neg (by decide)]
      exact k _ _ hM.1 hM.2
  · refine ex_S (.int (-3)) (sFound (pw (R r)) S) ⟨_, rfl⟩ hok (fun L mi ml Q h k => ?_) (fun L mi ml Q h k => ?_)
    · obtain ⟨hst, hln⟩ := h.1 r hr
      rw [C1 L mi ml Q h, c147 (d := 95) (strip_row hr) hst (by omega) hln hp, ret1, s128_32, if_neg (by decide)]
      exact k _ _ (Cst_found hP h).1 (Cst_found hP h).2
    · rw [M1 L mi ml Q h, s220_29, if_neg (nI_ne0 (by omega) (by omega)), c152 hpw, ret1, s220_42]
      exact k _ _ (Mst_found h).1 (Mst_found h).2
