/-! soonest: days -/
theorem div_mono {a b p : Nat} (h : a ≤ b) : a / p ≤ b / p := Nat.div_le_div_right h
theorem ripe_mono {k a b p : Nat} (h : a ≤ b) : ripeN k a p ≤ ripeN k b p := by
  have h1 : beanN a p ≤ beanN b p := by
    have := div_mono (p := p) h
    unfold beanN
    omega
  unfold ripeN
  split
  · split
    · exact Nat.zero_le _
    · rw [if_neg (by omega)]
      omega
  · split
    · omega
    · exact h1
section DAYS
variable {p : Nat × Nat × Nat × Nat} {w pod : Nat} {e : Bool} {day : Nat}
theorem dayN_some : ∀ n s t, dayN p w pod e day n s = some t → mayP p w pod e (day + t) ∧ ∀ u, s ≤ u → u < t → ¬ mayP p w pod e (day + u) := by
  intro n
  induction n with
  | zero => intro s t h; cases h
  | succ n ih =>
    intro s t h
    unfold dayN at h
    split at h
    · cases h
      rename_i hm
      exact ⟨hm, fun u h1 h2 => by omega⟩
    · rename_i hm
      have := ih _ _ h
      refine ⟨this.1, fun u h1 h2 => ?_⟩
      rcases Nat.lt_or_ge s u with h3 | h3
      · exact this.2 u h3 h2
      · rw [show u = s by omega]; exact hm
theorem dayN_none : ∀ n s, dayN p w pod e day n s = none → ∀ u, s ≤ u → u < s + n → ¬ mayP p w pod e (day + u) := by
  intro n
  induction n with
  | zero => intro s _ u h1 h2; omega
  | succ n ih =>
    intro s h u h1 h2
    unfold dayN at h
    split at h
    · cases h
    · rename_i hm
      rcases Nat.lt_or_ge s u with h3 | h3
      · exact ih _ h u h3 (by omega)
      · rw [show u = s by omega]; exact hm
theorem dayN_is {n s t : Nat} (h1 : s ≤ t) (h2 : t < s + n) (hm : mayP p w pod e (day + t)) (hn : ∀ u, s ≤ u → u < t → ¬ mayP p w pod e (day + u)) : dayN p w pod e day n s = some t := by
  cases h : dayN p w pod e day n s with
  | none => exact absurd hm (dayN_none n s h t h1 h2)
  | some t' =>
    have h3 := dayN_some n s t' h
    have h4 := dayN_le n s t' h
    rcases Nat.lt_trichotomy t t' with h5 | h5 | h5
    · exact absurd hm (h3.2 t h1 h5)
    · rw [h5]
    · exact absurd h3.1 (hn t' h4.1 h5)
theorem dayN_no {n s : Nat} (hn : ∀ u, s ≤ u → u < s + n → ¬ mayP p w pod e (day + u)) : dayN p w pod e day n s = none := by
  cases h : dayN p w pod e day n s with
  | none => rfl
  | some t' =>
    have h3 := dayN_some n s t' h
    have h4 := dayN_le n s t' h
    exact absurd h3.1 (hn t' h4.1 h4.2)
/-- the day by the first day and the days gone by -/
def thenN (p : Nat × Nat × Nat × Nat) (day d due : Nat) : Option Nat := if p.1 = 3 ∧ (day + max d due) % 2 = 1 then (if 60 < max d due + 1 then none else some (max d due + 1)) else (if 60 < max d due then none else some (max d due))
theorem dayN_then {d : Nat} (hd : d ≤ 60) : dayN p w pod e day (61 - d) d = match dayN p w pod e day 61 0 with
    | none => none
    | some due => thenN p day d due := by
  cases h : dayN p w pod e day 61 0 with
  | none =>
    have hn := dayN_none _ _ h
    exact dayN_no (fun u h1 h2 => hn u (by omega) (by omega))
  | some due =>
    have h3 := dayN_some _ _ _ h
    have h4 := dayN_le _ _ _ h
    show dayN p w pod e day (61 - d) d = thenN p day d due
    unfold thenN
    rcases Nat.lt_or_ge due d with hlt | hge
    · rw [Nat.max_eq_left (by omega)]
      have hr : ∀ u, d ≤ u → ¬ (p.1 = 3 ∧ (day + u) % 2 = 1) → mayP p w pod e (day + u) := fun u hu hp => by
        refine ⟨h3.1.1, hp, Nat.lt_of_lt_of_le h3.1.2.2 ?_⟩
        exact ripe_mono (by omega)
      by_cases hc : p.1 = 3 ∧ (day + d) % 2 = 1
      · rw [if_pos hc]
        by_cases h60 : 60 < d + 1
        · rw [if_pos h60]
          refine dayN_no (fun u h1 h2 hm => ?_)
          rw [show u = d by omega] at hm
          exact hm.2.1 hc
        · rw [if_neg h60]
          refine dayN_is (by omega) (by omega) (hr (d + 1) (by omega) (by omega)) (fun u h1 h2 hm => ?_)
          rw [show u = d by omega] at hm
          exact hm.2.1 hc
      · rw [if_neg hc, if_neg (by omega)]
        exact dayN_is (Nat.le_refl _) (by omega) (hr d (Nat.le_refl _) hc) (fun u h1 h2 => by omega)
    · rw [Nat.max_eq_right hge, if_neg (fun z => h3.1.2.1 z), if_neg (by omega)]
      exact dayN_is hge (by omega) h3.1 (fun u h1 h2 => h3.2 u (by omega) h2)
end DAYS
/-! the ways, by days -/
abbrev pK : Type := Option (Nat × List Nat)
/-- no better than what is there -/
abbrev noB (S : pK) (days : Nat) : Prop := match S with
  | none => False
  | some x => x.1 ≤ days
def dts (P : pP) (g : pG) (xs : List Int32) (nx : Nat → Nat) (i k days : Nat) : Option Nat := if nx i < 9 ∧ wordP (pl P i) (nx i) = wv xs k then dayN (pl P i) (gW g i) (nx i) (gE g i) (gD g) (61 - days) days else none
def noBd (S : pK) (days : Nat) : Bool := match S with
  | none => false
  | some x => decide (x.1 ≤ days)
def sk (P : pP) (g : pG) (xs : List Int32) : Nat → Nat → (Nat → Nat) → Nat → List Nat → pK → pK
  | 0, _, _, days, pth, S => if noBd S days = true then S else some (days, pth)
  | r + 1, k, nx, days, pth, S => if noBd S days = true then S else itN (fun i S => match dts P g xs nx i k days with
    | none => S
    | some t => sk P g xs r (k + 1) (up nx i (nx i + 1)) t (pth ++ [i]) S) P.length S
def evC (P : pP) (g : pG) (xs : List Int32) : Nat → Nat → (Nat → Nat) → Nat → Nat → Option Nat
  | 0, _, _, days, _ => some days
  | r + 1, k, nx, days, c => match dts P g xs nx (c / P.length ^ r) k days with
    | none => none
    | some t => evC P g xs r (k + 1) (up nx (c / P.length ^ r) (nx (c / P.length ^ r) + 1)) t (c % P.length ^ r)
def dgl (n : Nat) : Nat → Nat → List Nat
  | 0, _ => []
  | r + 1, c => c / n ^ r :: dgl n r (c % n ^ r)
def modF (P : pP) (g : pG) (xs : List Int32) (r k : Nat) (nx : Nat → Nat) (days : Nat) (pth : List Nat) : Nat → pK → pK := fun c S => match evC P g xs r k nx days c with
  | none => S
  | some d => if noBd S d = true then S else some (d, pth ++ dgl P.length r c)
theorem dts_le {P : pP} {g : pG} {xs : List Int32} {nx : Nat → Nat} {i k days t : Nat} (h : dts P g xs nx i k days = some t) (hd : days ≤ 60) : days ≤ t ∧ t ≤ 60 := by
  unfold dts at h
  split at h
  · have := dayN_le _ _ _ h
    omega
  · cases h
theorem evC_le {P : pP} {g : pG} {xs : List Int32} : ∀ r k nx days c d, evC P g xs r k nx days c = some d → days ≤ 60 → days ≤ d ∧ d ≤ 60 := by
  intro r
  induction r with
  | zero => intro k nx days c d h hd; cases h; omega
  | succ r ih =>
    intro k nx days c d h hd
    unfold evC at h
    cases ht : dts P g xs nx (c / P.length ^ r) k days with
    | none => rw [ht] at h; cases h
    | some t =>
      rw [ht] at h
      have h1 := dts_le ht hd
      have h2 := ih _ _ _ _ _ h h1.2
      omega
theorem itN_fix {α : Type} {F : Nat → α → α} {x : α} : ∀ n, (∀ i, i < n → F i x = x) → itN F n x = x := by
  intro n
  induction n with
  | zero => intro _; rfl
  | succ n ih =>
    intro h
    show F n (itN F n x) = x
    rw [ih (fun i hi => h i (by omega)), h n (by omega)]
theorem cod_sk {P : pP} {g : pG} {xs : List Int32} : ∀ r k nx days pth S, days ≤ 60 → itN (modF P g xs r k nx days pth) (P.length ^ r) S = sk P g xs r k nx days pth S := by
  intro r
  induction r with
  | zero =>
    intro k nx days pth S _
    show modF P g xs 0 k nx days pth 0 S = _
    show (if noBd S days = true then S else some (days, pth ++ [])) = _
    rw [List.append_nil]
    rfl
  | succ r ih =>
    intro k nx days pth S hd
    show _ = (if noBd S days = true then S else _)
    by_cases hb : noBd S days = true
    · rw [if_pos hb]
      refine itN_fix _ (fun c hc => ?_)
      unfold modF
      cases he : evC P g xs (r + 1) k nx days c with
      | none => rfl
      | some d =>
        have hle := evC_le _ _ _ _ _ _ he hd
        have hb2 : noBd S d = true := by
          cases S with
          | none => cases hb
          | some x =>
            have hb : x.1 ≤ days := of_decide_eq_true hb
            exact decide_eq_true (by omega)
        show (if noBd S d = true then S else _) = S
        rw [if_pos hb2]
    · rw [if_neg hb, Nat.pow_succ, Nat.mul_comm, itN_mul]
      refine itN_congr _ _ (fun i hi B => ?_)
      cases ht : dts P g xs nx i k days with
      | none =>
        refine itN_id _ _ (fun j hj a => ?_)
        have e := dig_i (i := i) hj
        have ee : evC P g xs (r + 1) k nx days (i * P.length ^ r + j) = none := by
          unfold evC
          rw [e.1, ht]
        unfold modF
        rw [ee]
      | some t =>
        have htl := dts_le ht hd
        show _ = sk P g xs r (k + 1) (up nx i (nx i + 1)) t (pth ++ [i]) B
        rw [← ih _ _ _ _ _ htl.2]
        refine itN_congr _ _ (fun j hj a => ?_)
        have e := dig_i (i := i) hj
        have ee : evC P g xs (r + 1) k nx days (i * P.length ^ r + j) = evC P g xs r (k + 1) (up nx i (nx i + 1)) t j := by
          show (match dts P g xs nx ((i * P.length ^ r + j) / P.length ^ r) k days with
            | none => none
            | some t => evC P g xs r (k + 1) (up nx ((i * P.length ^ r + j) / P.length ^ r) (nx ((i * P.length ^ r + j) / P.length ^ r) + 1)) t ((i * P.length ^ r + j) % P.length ^ r)) = _
          rw [e.1, e.2, ht]
        have ed : pth ++ dgl P.length (r + 1) (i * P.length ^ r + j) = pth ++ [i] ++ dgl P.length r j := by
          show pth ++ ((i * P.length ^ r + j) / P.length ^ r :: dgl P.length r ((i * P.length ^ r + j) % P.length ^ r)) = _
          rw [e.1, e.2, List.append_assoc]
          rfl
        unfold modF
        rw [ee, ed]
theorem ev_C {P : pP} {g : pG} {xs : List Int32} {s c : Nat} : ∀ r k nx days, k + r = s → evW P g xs 60 (dg P.length s c) r k nx days = evC P g xs r k nx days (c % P.length ^ r) := by
  intro r
  induction r with
  | zero => intro k nx days _; rfl
  | succ r ih =>
    intro k nx days hk
    have e := dg_first (n := P.length) (c := c) hk
    have ee : evW P g xs 60 (dg P.length s c) (r + 1) k nx days = if nx (dg P.length s c k) < 9 ∧ wordP (pl P (dg P.length s c k)) (nx (dg P.length s c k)) = wv xs k then (match dayN (pl P (dg P.length s c k)) (gW g (dg P.length s c k)) (nx (dg P.length s c k)) (gE g (dg P.length s c k)) (gD g) (60 + 1 - days) days with
      | none => none
      | some e => evW P g xs 60 (dg P.length s c) r (k + 1) (up nx (dg P.length s c k) (nx (dg P.length s c k) + 1)) e) else none := rfl
    have ec : evC P g xs (r + 1) k nx days (c % P.length ^ (r + 1)) = match dts P g xs nx (dg P.length s c k) k days with
      | none => none
      | some t => evC P g xs r (k + 1) (up nx (dg P.length s c k) (nx (dg P.length s c k) + 1)) t (c % P.length ^ r) := by
      show (match dts P g xs nx (c % P.length ^ (r + 1) / P.length ^ r) k days with
        | none => none
        | some t => evC P g xs r (k + 1) (up nx (c % P.length ^ (r + 1) / P.length ^ r) (nx (c % P.length ^ (r + 1) / P.length ^ r) + 1)) t (c % P.length ^ (r + 1) % P.length ^ r)) = _
      rw [e.1, e.2]
    rw [ee, ec]
    unfold dts
    by_cases hc : nx (dg P.length s c k) < 9 ∧ wordP (pl P (dg P.length s c k)) (nx (dg P.length s c k)) = wv xs k
    · rw [if_pos hc, if_pos hc]
      show (match dayN _ _ _ _ _ (61 - days) days with
        | none => none
        | some e => evW P g xs 60 (dg P.length s c) r (k + 1) (up nx (dg P.length s c k) (nx (dg P.length s c k) + 1)) e) = _
      cases dayN (pl P (dg P.length s c k)) (gW g (dg P.length s c k)) (nx (dg P.length s c k)) (gE g (dg P.length s c k)) (gD g) (61 - days) days with
      | none => rfl
      | some t => exact ih (k + 1) _ t (by omega)
    · rw [if_neg hc, if_neg hc]
theorem dgl_at {n s c : Nat} : ∀ r k, k + r = s → (dgl n r (c % n ^ r)).length = r ∧ ∀ j, j < r → (dgl n r (c % n ^ r)).getD j 0 = dg n s c (k + j) := by
  intro r
  induction r with
  | zero => intro k _; exact ⟨rfl, fun j hj => absurd hj (Nat.not_lt_zero j)⟩
  | succ r ih =>
    intro k hk
    have e := dg_first (n := n) (c := c) hk
    have i1 := ih (k + 1) (by omega)
    have ed : dgl n (r + 1) (c % n ^ (r + 1)) = dg n s c k :: dgl n r (c % n ^ r) := by
      show c % n ^ (r + 1) / n ^ r :: dgl n r (c % n ^ (r + 1) % n ^ r) = _
      rw [e.1, e.2]
    rw [ed]
    refine ⟨by rw [List.length_cons, i1.1], fun j hj => ?_⟩
    cases j with
    | zero => rfl
    | succ j =>
      show (dgl n r (c % n ^ r)).getD j 0 = _
      rw [i1.2 j (by omega)]
      congr 1
      omega
/-- what is found is a way of its length, in its days -/
def okK2 (S : pK) (s : Nat) : Prop := match S with
  | none => True
  | some x => x.1 ≤ 60 ∧ x.2.length = s
