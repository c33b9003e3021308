/-! ways as codes -/
theorem itN_congr {α : Type} {F G : Nat → α → α} : ∀ n a, (∀ i, i < n → ∀ a, F i a = G i a) → itN F n a = itN G n a := by
  intro n a
  induction n with
  | zero => intro _; rfl
  | succ n ih =>
    intro h
    show F n (itN F n a) = G n (itN G n a)
    rw [ih (fun i hi => h i (by omega)), h n (by omega)]
theorem itN_add {α : Type} {F : Nat → α → α} {a : Nat} : ∀ b x, itN F (a + b) x = itN (fun j => F (a + j)) b (itN F a x) := by
  intro b x
  induction b with
  | zero => rfl
  | succ b ih =>
    show F (a + b) (itN F (a + b) x) = F (a + b) (itN (fun j => F (a + j)) b (itN F a x))
    rw [ih]
theorem itN_mul {α : Type} {F : Nat → α → α} {b : Nat} : ∀ a x, itN F (a * b) x = itN (fun i x => itN (fun j => F (i * b + j)) b x) a x := by
  intro a x
  induction a with
  | zero => rw [Nat.zero_mul]; rfl
  | succ a ih =>
    rw [Nat.succ_mul, itN_add, ih]
    rfl
theorem itN_id {α : Type} {F : Nat → α → α} : ∀ n x, (∀ i, i < n → ∀ a, F i a = a) → itN F n x = x := by
  intro n x
  induction n with
  | zero => intro _; rfl
  | succ n ih =>
    intro h
    show F n (itN F n x) = x
    rw [ih (fun i hi => h i (by omega)), h n (by omega)]
theorem itN_ext {α : Type} {F : Nat → α → α} {n : Nat} (m : Nat) (x : α) (h : ∀ i, n ≤ i → ∀ a, F i a = a) : itN F (n + m) x = itN F n x := by
  rw [itN_add, itN_id m _ (fun i _ a => h (n + i) (by omega) a)]
theorem dig_i {i j b : Nat} (hj : j < b) : (i * b + j) / b = i ∧ (i * b + j) % b = j := by
  constructor
  · rw [Nat.add_comm, Nat.add_mul_div_right _ _ (by omega), Nat.div_eq_of_lt hj, Nat.zero_add]
  · rw [Nat.add_comm, Nat.add_mul_mod_self_right, Nat.mod_eq_of_lt hj]
def okC (P : pP) (g : pG) (xs : List Int32) : Nat → Nat → (Nat → Nat) → Nat → Bool
  | 0, _, _, _ => true
  | r + 1, k, nx, c => decide (mayS P g xs nx (c / P.length ^ r) k) && okC P g xs r (k + 1) (up nx (c / P.length ^ r) (nx (c / P.length ^ r) + 1)) (c % P.length ^ r)
def ftC (n : Nat) : Nat → (Nat → Bool) → Nat → Nat → Bool
  | 0, f, _ => f
  | r + 1, f, c => ftC n r (up f (c / n ^ r) true) (c % n ^ r)
def hdC (n : Nat) : Nat → Nat → Int32 → Nat → Int32
  | 0, _, h, _ => h
  | r + 1, k, h, c => hdC n r (k + 1) (if k = 0 then nI (c / n ^ r) else h) (c % n ^ r)
def codF (P : pP) (g : pG) (xs : List Int32) (r k : Nat) (nx : Nat → Nat) (f : Nat → Bool) (h : Int32) : Nat → pW → pW := fun c A => if okC P g xs r k nx c = true then addW A (nI (maskN (ftC P.length r f c) 6)) (hdC P.length r k h c) else A
theorem cod_dfs {P : pP} {g : pG} {xs : List Int32} (hP : P.length ≤ 6) : ∀ r k nx f h A, itN (codF P g xs r k nx f h) (P.length ^ r) A = dfs P g xs r k nx f h A := by
  intro r
  induction r with
  | zero =>
    intro k nx f h A
    rfl
  | succ r ih =>
    intro k nx f h A
    rw [Nat.pow_succ, Nat.mul_comm, itN_mul]
    have hin : ∀ i, i < P.length → ∀ B : pW, itN (fun j => codF P g xs (r + 1) k nx f h (i * P.length ^ r + j)) (P.length ^ r) B = if mayS P g xs nx i k then dfs P g xs r (k + 1) (up nx i (nx i + 1)) (up f i true) (if k = 0 then nI i else h) B else B := fun i hi B => by
      by_cases hm : mayS P g xs nx i k
      · rw [if_pos hm, ← ih]
        refine itN_congr _ _ (fun j hj a => ?_)
        have e := dig_i (i := i) hj
        show (if okC P g xs (r + 1) k nx (i * P.length ^ r + j) = true then _ else _) = (if okC P g xs r (k + 1) (up nx i (nx i + 1)) j = true then _ else _)
        have e1 : okC P g xs (r + 1) k nx (i * P.length ^ r + j) = okC P g xs r (k + 1) (up nx i (nx i + 1)) j := by
          show (decide (mayS P g xs nx ((i * P.length ^ r + j) / P.length ^ r) k) && _) = _
          rw [e.1, e.2, decide_eq_true hm, Bool.true_and]
        have e2 : ftC P.length (r + 1) f (i * P.length ^ r + j) = ftC P.length r (up f i true) j := by
          show ftC P.length r (up f ((i * P.length ^ r + j) / P.length ^ r) true) ((i * P.length ^ r + j) % P.length ^ r) = _
          rw [e.1, e.2]
        have e3 : hdC P.length (r + 1) k h (i * P.length ^ r + j) = hdC P.length r (k + 1) (if k = 0 then nI i else h) j := by
          show hdC P.length r (k + 1) (if k = 0 then nI ((i * P.length ^ r + j) / P.length ^ r) else h) ((i * P.length ^ r + j) % P.length ^ r) = _
          rw [e.1, e.2]
        rw [e1, e2, e3]
      · rw [if_neg hm]
        refine itN_id _ _ (fun j hj a => ?_)
        have e := dig_i (i := i) hj
        show (if okC P g xs (r + 1) k nx (i * P.length ^ r + j) = true then _ else _) = _
        have e1 : okC P g xs (r + 1) k nx (i * P.length ^ r + j) = false := by
          show (decide (mayS P g xs nx ((i * P.length ^ r + j) / P.length ^ r) k) && _) = _
          rw [e.1, decide_eq_false hm, Bool.false_and]
        rw [e1]
        rfl
    rw [itN_congr (G := fun i B => if mayS P g xs nx i k then dfs P g xs r (k + 1) (up nx i (nx i + 1)) (up f i true) (if k = 0 then nI i else h) B else B) _ _ hin]
    have := itN_ext (F := fun i B => if mayS P g xs nx i k then dfs P g xs r (k + 1) (up nx i (nx i + 1)) (up f i true) (if k = 0 then nI i else h) B else B) (n := P.length) (6 - P.length) A (fun i hi B => if_neg (fun z => by have := z.1.1; omega))
    rw [show P.length + (6 - P.length) = 6 by omega] at this
    exact this.symm
/-! a code's digits -/
def dg (n s c k : Nat) : Nat := c / n ^ (s - 1 - k) % n
theorem dg_lt {n s c k : Nat} (hn : 0 < n) : dg n s c k < n := Nat.mod_lt _ hn
/-- the first digit of what is left of a code, and what is left then -/
theorem dg_first {n s c k r : Nat} (hr : k + (r + 1) = s) : c % n ^ (r + 1) / n ^ r = dg n s c k ∧ c % n ^ (r + 1) % n ^ r = c % n ^ r := by
  constructor
  · unfold dg
    rw [show s - 1 - k = r by omega, Nat.pow_succ, Nat.mod_mul_right_div_self]
  · rw [Nat.pow_succ]
    exact Nat.mod_mul_right_mod c (n ^ r) n
/-- when all of a code's words can be said, day by day -/
def evW (P : pP) (g : pG) (xs : List Int32) (lim : Nat) (way : Nat → Nat) : Nat → Nat → (Nat → Nat) → Nat → Option Nat
  | 0, _, _, d => some d
  | r + 1, k, nx, d => if nx (way k) < 9 ∧ wordP (pl P (way k)) (nx (way k)) = wv xs k then (match dayN (pl P (way k)) (gW g (way k)) (nx (way k)) (gE g (way k)) (gD g) (lim + 1 - d) d with
    | none => none
    | some e => evW P g xs lim way r (k + 1) (up nx (way k) (nx (way k) + 1)) e) else none
theorem ev_ok {P : pP} {g : pG} {xs : List Int32} {s c : Nat} (hn : 0 < P.length) : ∀ r k nx, k + r = s → evW P g xs 0 (dg P.length s c) r k nx 0 = if okC P g xs r k nx (c % P.length ^ r) = true then some 0 else none := by
  intro r
  induction r with
  | zero => intro k nx _; rfl
  | succ r ih =>
    intro k nx hk
    have e := dg_first (n := P.length) (c := c) hk
    have hlt := dg_lt (n := P.length) (s := s) (c := c) (k := k) hn
    have eo : okC P g xs (r + 1) k nx (c % P.length ^ (r + 1)) = (decide (mayS P g xs nx (dg P.length s c k) k) && okC P g xs r (k + 1) (up nx (dg P.length s c k) (nx (dg P.length s c k) + 1)) (c % P.length ^ r)) := by
      show (decide (mayS P g xs nx (c % P.length ^ (r + 1) / P.length ^ r) k) && okC P g xs r (k + 1) (up nx (c % P.length ^ (r + 1) / P.length ^ r) (nx (c % P.length ^ (r + 1) / P.length ^ r) + 1)) (c % P.length ^ (r + 1) % P.length ^ r)) = _
      rw [e.1, e.2]
    have ee : evW P g xs 0 (dg P.length s c) (r + 1) k nx 0 = if nx (dg P.length s c k) < 9 ∧ wordP (pl P (dg P.length s c k)) (nx (dg P.length s c k)) = wv xs k then (match (if mayP (pl P (dg P.length s c k)) (gW g (dg P.length s c k)) (nx (dg P.length s c k)) (gE g (dg P.length s c k)) (gD g + 0) then some 0 else none : Option Nat) with
      | none => none
      | some e => evW P g xs 0 (dg P.length s c) r (k + 1) (up nx (dg P.length s c k) (nx (dg P.length s c k) + 1)) e) else none := rfl
    rw [eo, ee, Nat.add_zero]
    have ihk := ih (k + 1) (up nx (dg P.length s c k) (nx (dg P.length s c k) + 1)) (by omega)
    by_cases hm : mayS P g xs nx (dg P.length s c k) k
    · rw [decide_eq_true hm, Bool.true_and, if_pos ⟨mayX_lt hm.1, hm.2⟩, if_pos hm.1.2]
      exact ihk
    · rw [decide_eq_false hm, Bool.false_and]
      by_cases hc : nx (dg P.length s c k) < 9 ∧ wordP (pl P (dg P.length s c k)) (nx (dg P.length s c k)) = wv xs k
      · rw [if_pos hc, if_neg (fun z => hm ⟨⟨hlt, z⟩, hc.2⟩)]
        rfl
      · rw [if_neg hc]
        rfl
/-! the model goes through the codes -/
section CODE
variable {R : pR} {P : pP} {g : pG} {L : Nat} {mi : Nat → Nat → Int32} {ml : Nat → Nat → Int64} {d : Nat} {Q : Option Value → xM → Prop} {xs : List Int32} {i q w lim r s c : Nat} {p : Nat × Nat × Nat × Nat}
theorem c203g {x4 : Int32} (hi : i < 6) (hg : mgR mi g) (h : mpR mi i p) (hp : okp p) (hd : gD g < 100) (hw : w < 100) (hl : lim < 200) (hpod : q < 9) : ∀ n s, s + n = lim + 1 → X 203 4 [.ref 68, .int (nI i), .int (nI q), .int (nI w), .int x4, .int (nI lim), .int (nI s)] [] (SH L, mi, ml, MR) (d + 3) Q = Q (some (.int (dayM (dayN p w q (gE g i) (gD g) n s)))) (SH L, mi, ml, MR) := by
  intro n
  induction n with
  | zero =>
    intro s hs
    rw [s203_4, if_pos (nI_lt (by omega) (by omega))]
    rfl
  | succ n ih =>
    intro s hs
    rw [s203_4, if_neg (nI_nlt (by omega) (by omega)), mg_d hg, nI_add, c181 hi hg h hp (by omega) hw (by omega), ret1, s203_28, nI_1]
    unfold dayN
    by_cases hm : mayP p w q (gE g i) (gD g + s)
    · rw [bI_t hm, if_neg i1_ne0, if_pos hm]
      rfl
    · rw [bI_f hm, if_pos rfl, if_neg hm]
      exact ih (s + 1) (by omega)
theorem c208_far {x1 x2 x3 x4 x5 x7 : Int32} {u8 u9 : Value} : X 208 73 [.ref 68, .int x1, .int x2, .int x3, .int x4, .int x5, .int 1000000, .int x7, u8, u9] [] (SH L, mi, ml, MR) (d + 1) Q = Q (some (.int 1000000)) (SH L, mi, ml, MR) := by
  have hn : ¬ (1000000 : Int32) < 1000000 := by decide
  rw [s208_73g (fun _ z => absurd z hn) (fun _ z => absurd z hn) (fun _ z => absurd z hn) (fun _ z => absurd z hn)]
  split
  all_goals first | rfl | rw [if_neg hn]
theorem c208_73 {way : Nat → Nat} {x1 x5 : Int32} {mi0 : Nat → Nat → Int32} (hok : okP P) (hr : r < 6) (hR : R r = some xs) (hs5 : xs.length ≤ 5) (hgd : ∀ i, i < xs.length → goodW (xs.getD i 0)) (hd : gD g < 100) (hw : ∀ i, gW g i < 100) (hl : lim < 200) (hway : ∀ j, j < xs.length → way j < P.length) : ∀ m k nx e mi u8 u9, k + m = xs.length → e ≤ lim → (∀ i, nx i + m < 200) → mR R mi → mgR mi g → (∀ i, i < P.length → mpR mi i (pl P i)) → (∀ j, j < xs.length → mi 83 j = nI (way j)) → (∀ i, i < 6 → mi 85 i = nI (nx i)) → (∀ a j, a ≠ 85 → mi a j = mi0 a j) → (∀ mi', (∀ a j, a ≠ 85 → mi' a j = mi0 a j) → Q (some (.int (dayM (evW P g xs lim way m k nx e)))) (SH L, mi', ml, MR)) → X 208 73 [.ref 68, .int x1, .int (nI r), .int (nI lim), .int (nI xs.length), .int x5, .int (nI e), .int (nI k), u8, u9] [] (SH L, mi, ml, MR) (d + 4) Q := by
  have hP := hok.1
  intro m
  induction m with
  | zero =>
    intro k nx e mi u8 u9 hk he hnx hRR hg hm h83 h85 hsame q
    have hn : ¬ nI k < nI xs.length := nI_nlt (by omega) (by omega)
    rw [s208_73g (fun z => absurd z hn) (fun z => absurd z hn) (fun z => absurd z hn) (fun z => absurd z hn), if_neg hn]
    exact q mi hsame
  | succ m ih =>
    intro k nx e mi u8 u9 hk he hnx hRR hg hm h83 h85 hsame q
    have hik := hway k (by omega)
    have hnk := hnx (way k)
    have e83 : mi 83 k = nI (way k) := h83 k (by omega)
    have ewv := wv_ok (hgd k (by omega))
    have hx6 : xin (nI (way k)) 6 = true := xin_nI (by omega) (by omega)
    have ck : (nI k).toNatClampNeg = k := nI_clamp (by omega)
    have ci : (nI (way k)).toNatClampNeg = way k := nI_clamp (by omega)
    have hx83 : xin (mi 83 (nI k).toNatClampNeg) 6 = true := by rw [ck, e83]; exact hx6
    rw [s208_73g (fun _ _ => xin_nI (by omega) (by omega)) (fun _ _ => hx83) (fun _ _ => hx83) (fun _ _ => hx83), if_pos (nI_lt (by omega) (by omega)), if_pos (show nI e < 1000000 from nI_lt (b := 1000000) (by omega) (by omega)), ck, e83, ci, h85 (way k) (by omega), nI_1]
    have hs2 : ∀ a j, a ≠ 85 → xw mi 85 (way k) (nI (nx (way k) + 1)) a j = mi0 a j := fun a j ha => by rw [xw_ne ha]; exact hsame a j ha
    have ee : evW P g xs lim way (m + 1) k nx e = if nx (way k) < 9 ∧ wordP (pl P (way k)) (nx (way k)) = wv xs k then (match dayN (pl P (way k)) (gW g (way k)) (nx (way k)) (gE g (way k)) (gD g) (lim + 1 - e) e with
      | none => none
      | some e' => evW P g xs lim way m (k + 1) (up nx (way k) (nx (way k) + 1)) e') else none := rfl
    rw [ee] at q
    by_cases h9 : nx (way k) < 9
    · have hg2 : mgR (xw mi 85 (way k) (nI (nx (way k) + 1))) g := fun j hj => by rw [xw_ne (by omega)]; exact hg j hj
      have hm2 : ∀ i, i < P.length → mpR (xw mi 85 (way k) (nI (nx (way k) + 1))) i (pl P i) := fun i hi => by
        have := hm i hi
        unfold mpR at this ⊢
        rw [xw_ne (by omega), xw_ne (by omega), xw_ne (by omega), xw_ne (by omega)]
        exact this
      have hR2 : mR R (xw mi 85 (way k) (nI (nx (way k) + 1))) := mR_congr hRR (fun j => xw_ne (by omega) j) (fun j => xw_ne (by omega) j)
      have hwl := wordP_lt (pl P (way k)) (nx (way k))
      have erow : xw mi 85 (way k) (nI (nx (way k) + 1)) 70 (40 * r + k) = nI (wv xs k) := by
        rw [((hR2 r hr).2 xs hR).2 k (by omega)]
        exact ewv.1
      rw [if_pos (show nI (nx (way k)) < 9 from nI_lt (b := 9) h9 (by omega)), c180 (by omega) (hm2 _ hik) (hok.2 _ hik) (by omega), ret1, s208_131 (by rw [rowAt]; exact xin_nI (by omega) (by omega)) (fun _ => xin_w (by omega)), rowAt, nI_clamp (by omega), erow, nI_1]
      by_cases hwd : wordP (pl P (way k)) (nx (way k)) = wv xs k
      · rw [if_pos (congrArg nI hwd), mg_w hg2 (by omega), s203]
        rw [if_pos ⟨h9, hwd⟩] at q
        refine Eq.mpr (c203g (d := d) (by omega) hg2 (hm2 _ hik) (hok.2 _ hik) hd (hw _) hl h9 (lim + 1 - e) e (by omega)) ?_
        rw [ret1, s208_166, nI_1]
        cases hdn : dayN (pl P (way k)) (gW g (way k)) (nx (way k)) (gE g (way k)) (gD g) (lim + 1 - e) e with
        | none =>
          rw [hdn] at q
          show X 208 73 [.ref 68, .int x1, .int (nI r), .int (nI lim), .int (nI xs.length), .int x5, .int 1000000, .int (nI (k + 1)), _, _] _ _ _ _
          rw [c208_far]
          exact q _ hs2
        | some e' =>
          rw [hdn] at q
          have he' := dayN_le _ _ _ hdn
          refine ih (k + 1) (up nx (way k) (nx (way k) + 1)) e' _ _ _ (by omega) (by omega) (fun i => ?_) hR2 hg2 hm2 (fun j hj => by rw [xw_ne (by omega)]; exact h83 j hj) (fun i hi => ?_) hs2 q
          · have := hnx i
            unfold up
            split <;> omega
          · rw [xw_eq]
            unfold up
            by_cases hiw : i = way k
            · rw [if_pos hiw, if_pos hiw]
            · rw [if_neg hiw, if_neg hiw]
              exact h85 i hi
      · rw [if_neg (fun z => hwd (nI_inj (by omega) (by omega) z)), c208_far]
        rw [if_neg (fun z => hwd z.2)] at q
        exact q _ hs2
    · rw [if_neg (show ¬ nI (nx (way k)) < 9 from nI_nlt (b := 9) (by omega) (by omega)), c208_far]
      rw [if_neg (fun z => h9 z.1)] at q
      exact q _ hs2
theorem c208 (hok : okP P) (hn : 0 < P.length) (hr : r < 6) (hRR : mR R mi) (hR : R r = some xs) (hs5 : xs.length ≤ 5) (hgd : ∀ i, i < xs.length → goodW (xs.getD i 0)) (hd : gD g < 100) (hb : ∀ i, gW g i < 100 ∧ gP g i < 100) (hl : lim < 200) (h4 : mi 68 4 = nI P.length) (hg : mgR mi g) (hm : ∀ i, i < P.length → mpR mi i (pl P i)) (hc : c < 100000) (k : ∀ mi', (∀ a j, a ≠ 83 → a ≠ 85 → mi' a j = mi a j) → (∀ j, j < xs.length → mi' 83 j = nI (dg P.length xs.length c j)) → Q (some (.int (dayM (evW P g xs lim (dg P.length xs.length c) xs.length 0 (gP g) 0)))) (SH L, mi', ml, MR)) : Xm 208 [.ref 68, .int (nI c), .int (nI r), .int (nI lim)] (SH L, mi, ml, MR) (d + 4) Q := by
  have hP := hok.1
  have h69 : mi 69 r = nI xs.length := by
    have := (hRR r hr).1
    rw [hR] at this
    exact this
  have hdiv : ∀ t, c / P.length ^ t < 100000 := fun t => Nat.lt_of_le_of_lt (Nat.div_le_self _ _) hc
  rw [s208 (xin_nI hr (by omega)), nI_clamp (by omega), h69]
  have e1 : nI xs.length - 1 = if xs.length = 0 then -1 else nI (xs.length - 1 - 0) := by
    by_cases h0 : xs.length = 0
    · rw [h0, if_pos rfl]
      rfl
    · rw [if_neg h0]
      exact nI_sub (b := 1) (by omega)
  have hl1 := X_loop (mid := 208) (pc := 17) (d := d + 4) (Q := Q) (fun t => [.ref 68, .int (nI c), .int (nI r), .int (nI lim), .int (nI xs.length), .int (nI (c / P.length ^ t)), .int (if xs.length = t then -1 else nI (xs.length - 1 - t)), xmk, xmk, xmk]) (fun t => (SH L, (fun a j => if a = 83 ∧ xs.length - t ≤ j ∧ j < xs.length then nI (dg P.length xs.length c j) else mi a j), ml, MR)) xs.length (fun t ht => by
    have hdt := hdiv t
    have e68 : ∀ (v : Int32) (j : Nat), xw (fun a j => if a = 83 ∧ xs.length - t ≤ j ∧ j < xs.length then nI (dg P.length xs.length c j) else mi a j) 83 j v 68 4 = nI P.length := fun v j => by
      rw [xw_ne (by omega)]
      show (if (68 : Nat) = 83 ∧ _ then _ else mi 68 4) = _
      rw [if_neg (by omega), h4]
    have e68' : (if (68 : Nat) = 83 ∧ xs.length - t ≤ 4 ∧ 4 < xs.length then nI (dg P.length xs.length c 4) else mi 68 4) = nI P.length := by rw [if_neg (by omega), h4]
    have hne : ¬ nI P.length = 0 := nI_ne0 hn (by omega)
    rw [if_neg (show ¬ xs.length = t by omega), s208_17 (fun _ => by rw [e68']; exact hne) (fun _ => xin_nI (by omega) (by omega)) (fun _ => by rw [e68]; exact hne), if_neg (nI_nneg (by omega)), e68, e68', nI_rem (by omega) (by omega), nI_div (by omega) (by omega), nI_clamp (by omega), Nat.div_div_eq_div_mul, ← Nat.pow_succ]
    have e6 : nI (xs.length - 1 - t) + (-1) = if xs.length = t + 1 then -1 else nI (xs.length - 1 - (t + 1)) := by
      rw [show nI (xs.length - 1 - t) + (-1) = nI (xs.length - 1 - t) - 1 from (Int32.sub_eq_add_neg _ _).symm]
      by_cases h0 : xs.length = t + 1
      · rw [if_pos h0, show xs.length - 1 - t = 0 by omega]
        rfl
      · rw [if_neg h0, show nI (xs.length - 1 - t) - 1 = nI (xs.length - 1 - t - 1) from nI_sub (b := 1) (by omega)]
        congr 1
    have em : xw (fun a j => if a = 83 ∧ xs.length - t ≤ j ∧ j < xs.length then nI (dg P.length xs.length c j) else mi a j) 83 (xs.length - 1 - t) (nI (c / P.length ^ t % P.length)) = (fun a j => if a = 83 ∧ xs.length - (t + 1) ≤ j ∧ j < xs.length then nI (dg P.length xs.length c j) else mi a j) := by
      funext a j
      show (if a = 83 ∧ j = xs.length - 1 - t then nI (c / P.length ^ t % P.length) else (if a = 83 ∧ xs.length - t ≤ j ∧ j < xs.length then nI (dg P.length xs.length c j) else mi a j)) = _
      by_cases ha : a = 83
      · by_cases hj : j = xs.length - 1 - t
        · rw [if_pos ⟨ha, hj⟩, if_pos ⟨ha, by omega, by omega⟩]
          unfold dg
          rw [show xs.length - 1 - j = t by omega]
        · rw [if_neg (fun z => hj z.2)]
          by_cases hc2 : xs.length - t ≤ j ∧ j < xs.length
          · rw [if_pos ⟨ha, hc2⟩, if_pos ⟨ha, by omega, by omega⟩]
          · rw [if_neg (fun z => hc2 z.2), if_neg (fun z => hc2 (by omega))]
      · rw [if_neg (fun z => ha z.1), if_neg (fun z => ha z.1), if_neg (fun z => ha z.1)]
    rw [e6, em])
  have em0 : (fun a j => if a = 83 ∧ xs.length - 0 ≤ j ∧ j < xs.length then nI (dg P.length xs.length c j) else mi a j) = mi := by
    funext a j
    rw [if_neg (by omega)]
  rw [em0, Nat.pow_zero, Nat.div_one, ← e1] at hl1
  rw [hl1]
  have hm1 : ∀ a j, a ≠ 83 → (fun a j => if a = 83 ∧ xs.length - xs.length ≤ j ∧ j < xs.length then nI (dg P.length xs.length c j) else mi a j) a j = mi a j := fun a j ha => if_neg (fun z => ha z.1)
  have h83 : ∀ j, j < xs.length → (fun a j => if a = 83 ∧ xs.length - xs.length ≤ j ∧ j < xs.length then nI (dg P.length xs.length c j) else mi a j) 83 j = nI (dg P.length xs.length c j) := fun j hj => if_pos ⟨rfl, by omega, hj⟩
  generalize (fun a j => if a = 83 ∧ xs.length - xs.length ≤ j ∧ j < xs.length then nI (dg P.length xs.length c j) else mi a j) = m1 at hm1 h83
  rw [if_pos rfl, s208_17 (fun z => absurd (show (-1 : Int32) < 0 by decide) z) (fun z => absurd (show (-1 : Int32) < 0 by decide) z) (fun z => absurd (show (-1 : Int32) < 0 by decide) z), if_pos (show (-1 : Int32) < 0 by decide)]
  refine Eq.mpr (c188 (a := 6) (b := 0) (n := 6) (n0 := 15) (n2 := 6) rfl rfl (by omega) (by omega) (by omega) (by omega) (by omega)) ?_
  rw [ret0, s208_67]
  have hm2 : ∀ a j, a ≠ 85 → xcpy m1 77 6 85 0 6 a j = m1 a j := fun a j ha => by
    simp only [xcpy]
    rw [if_neg (fun z => ha z.1)]
  have h85 : ∀ i, i < 6 → xcpy m1 77 6 85 0 6 85 i = nI (gP g i) := fun i hi => by
    simp only [xcpy]
    rw [if_pos ⟨trivial, by omega, by omega⟩, hm1 _ _ (by omega), hg (6 + (i - 0)) (by omega)]
    unfold encN
    rw [if_neg (by omega), if_pos (by omega), show 6 + (i - 0) - 6 = i by omega]
  refine c208_73 (g := g) (R := R) (way := dg P.length xs.length c) (mi0 := m1) hok hr hR hs5 hgd hd (fun i => (hb i).1) hl (fun j _ => dg_lt hn) xs.length 0 (gP g) 0 _ _ _ (by omega) (by omega) (fun i => by have := (hb i).2; omega) (mR_congr hRR (fun j => by rw [hm2 _ _ (by omega), hm1 _ _ (by omega)]) (fun j => by rw [hm2 _ _ (by omega), hm1 _ _ (by omega)])) (fun j hj => by rw [hm2 _ _ (by omega), hm1 _ _ (by omega)]; exact hg j hj) (fun i hi => ?_) (fun j hj => by rw [hm2 _ _ (by omega)]; exact h83 j hj) h85 (fun a j ha => hm2 a j ha) (fun mi' h' => ?_)
  · have := hm i hi
    unfold mpR at this ⊢
    rw [hm2 _ _ (by omega), hm1 _ _ (by omega), hm2 _ _ (by omega), hm1 _ _ (by omega), hm2 _ _ (by omega), hm1 _ _ (by omega), hm2 _ _ (by omega), hm1 _ _ (by omega)]
    exact this
  · exact k mi' (fun a j h1 h2 => by rw [h' a j h2, hm1 a j h1]) (fun j hj => by rw [h' _ _ (by omega)]; exact h83 j hj)
end CODE
