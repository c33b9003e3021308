/-! often -/
def opp (p : Nat × Nat × Nat × Nat) (w : Nat) (e : Bool) (day q : Nat) : Nat := if e = false ∧ ¬ (p.1 = 3 ∧ day % 2 = 1) then ripeP p w day - q else 0
theorem opp_pos {p : Nat × Nat × Nat × Nat} {w : Nat} {e : Bool} {day q : Nat} : 0 < opp p w e day q ↔ mayP p w q e day := by
  unfold opp mayP
  by_cases h2 : e = false ∧ ¬ (p.1 = 3 ∧ day % 2 = 1)
  · rw [if_pos h2]
    exact ⟨fun z => ⟨h2.1, h2.2, by omega⟩, fun z => by have := z.2.2; omega⟩
  · rw [if_neg h2]
    exact ⟨fun z => absurd z (by omega), fun z => absurd ⟨z.1, z.2.1⟩ h2⟩
theorem opp_s {p : Nat × Nat × Nat × Nat} {w : Nat} {e : Bool} {day q : Nat} : opp p w e day (q + 1) = opp p w e day q - 1 := by
  unfold opp
  split <;> omega
theorem opp_le {p : Nat × Nat × Nat × Nat} {w : Nat} {e : Bool} {day q : Nat} : opp p w e day q ≤ 9 - q := by
  have : ripeP p w day ≤ 9 := ripeN_le _ _ _
  unfold opp
  split <;> omega
/-- how many pods, of the n from q on, say that word one behind the other -/
def runN (p : Nat × Nat × Nat × Nat) (word : Nat) : Nat → Nat → Nat
  | 0, _ => 0
  | n + 1, q => if wordP p q = word then 1 + runN p word n (q + 1) else 0
theorem runN_le (p : Nat × Nat × Nat × Nat) (word : Nat) : ∀ n q, runN p word n q ≤ n := by
  intro n
  induction n with
  | zero => intro q; exact Nat.le_refl _
  | succ n ih =>
    intro q
    have := ih (q + 1)
    unfold runN
    split <;> omega
def runP (P : pP) (g : pG) (word i : Nat) : Nat := runN (pl P i) word (opp (pl P i) (gW g i) (gE g i) (gD g) (gP g i)) (gP g i)
def v2 (v w : Value) : Prop := (v = xmk ∧ w = xmk) ∨ ∃ j z, j < 6 ∧ v = .ref (42 + j) ∧ w = .int z
section OFTEN
variable {P : pP} {D : List Nat} {L : Nat} {mi : Nat → Nat → Int32} {ml : Nat → Nat → Int64} {d : Nat} {Q : Option Value → xM → Prop} {a i k : Nat} {g : pG} {p : Nat × Nat × Nat × Nat} {w q day word : Nat} {e : Bool} {x2 x3 : Int32}
theorem c58_loop {x2 : Int32} {m : Nat} (hS : (SH L)[a]? = some (4, 7)) (h : plR mi a p w q e) (hp : okp p) (hq : q < 100) (hw : word < 10) (hm : m ≤ 9) : ∀ n r, r + n = m → X 58 9 [.ref a, .int (nI word), .int x2, .int (nI m), .int (nI r)] [] (SH L, mi, ml, MR) (d + 2) Q = Q (some (.int (nI (r + runN p word n (q + r))))) (SH L, mi, ml, MR) := by
  intro n
  induction n with
  | zero =>
    intro r hr
    rw [s58_9 hS, if_neg (nI_nlt (by omega) (by omega))]
    rfl
  | succ n ih =>
    intro r hr
    have hw1 := wordP_lt p (q + r)
    rw [s58_9 hS, if_pos (nI_lt (by omega) (by omega)), h.2.2.2.2.2.1, nI_add, c53 hS h hp (by omega), ret1, s58_26 hS, nI_1]
    unfold runN
    by_cases hx : wordP p (q + r) = word
    · rw [if_pos (congrArg nI hx), if_pos hx, ih (r + 1) (by omega), show q + (r + 1) = q + r + 1 by omega, show r + 1 + runN p word n (q + r + 1) = r + (1 + runN p word n (q + r + 1)) by omega]
    · rw [if_neg (fun z => hx (nI_inj (by omega) (by omega) z)), if_neg hx]
      rfl
theorem c58 (hS : (SH L)[a]? = some (4, 7)) (h : plR mi a p w q e) (hp : okp p) (hd : day < 500) (hwt : w < 100) (hq : q < 100) (hw : word < 10) : Xm 58 [.ref a, .int (nI word), .int (nI day)] (SH L, mi, ml, MR) (d + 4) Q = Q (some (.int (nI (runN p word (opp p w e day q) q)))) (SH L, mi, ml, MR) := by
  have hle := opp_le (p := p) (w := w) (e := e) (day := day) (q := q)
  rw [s58 hS, c57 hS h hp hd hwt hq, ret1, s58_5 hS]
  refine (c58_loop (m := opp p w e day q) hS h hp hq hw (by omega) (opp p w e day q) 0 (by omega)).trans ?_
  rw [Nat.zero_add, Nat.add_zero]
theorem c125_step {v u : Value} (hok : okP P) (hD : okD P D) (h : cG P D mi) (hk : k < P.length) (hv : v2 v u) (hw : word < 10) : X 125 29 [.ref 2, .int (nI word), .int x2, .int x3, .int (nI k), v, u] [] (SH L, mi, ml, MR) (d + 5) Q = X 125 29 [.ref 2, .int (nI word), .int (x2 + nI (runP P (rep P D) word k)), .int (x3 + nI (if 0 < runP P (rep P D) word k then 1 else 0)), .int (nI (k + 1)), .ref (42 + k), .int (nI (runP P (rep P D) word k))] [] (SH L, mi, ml, MR) (d + 5) Q := by
  have hP := hok.1
  have hD1 := hD.1
  have hb := rep_le P D
  have hbk := hb.2 k
  have hS := (shPlant L (i := k) (by omega)).1
  have hle := runN_le (pl P k) word (opp (pl P k) (gW (rep P D) k) (gE (rep P D) k) (gD (rep P D)) (gP (rep P D) k)) (gP (rep P D) k)
  have hl2 := opp_le (p := pl P k) (w := gW (rep P D) k) (e := gE (rep P D) k) (day := gD (rep P D)) (q := gP (rep P D) k)
  have fin : (if (0 : Int32) < nI (runP P (rep P D) word k) then (X 125 29 [.ref 2, .int (nI word), .int (x2 + nI (runP P (rep P D) word k)), .int (x3 + 1), .int (nI k + 1), .ref (42 + k), .int (nI (runP P (rep P D) word k))] [] (SH L, mi, ml, MR) (d + 5) Q) else (X 125 29 [.ref 2, .int (nI word), .int (x2 + nI (runP P (rep P D) word k)), .int (x3 + 0), .int (nI k + 1), .ref (42 + k), .int (nI (runP P (rep P D) word k))] [] (SH L, mi, ml, MR) (d + 5) Q)) = X 125 29 [.ref 2, .int (nI word), .int (x2 + nI (runP P (rep P D) word k)), .int (x3 + nI (if 0 < runP P (rep P D) word k then 1 else 0)), .int (nI (k + 1)), .ref (42 + k), .int (nI (runP P (rep P D) word k))] [] (SH L, mi, ml, MR) (d + 5) Q := by
    rw [nI_1]
    by_cases h0 : 0 < runP P (rep P D) word k
    · rw [if_pos ((nI_pos_iff (by unfold runP; omega)).mpr h0), if_pos h0]
      rfl
    · rw [if_neg (fun z => h0 ((nI_pos_iff (by unfold runP; omega)).mp z)), if_neg h0]
      rfl
  rcases hv with ⟨rfl, rfl⟩ | ⟨j, z, hj, rfl, rfl⟩
  · rw [s125_29, s16, ret1, s125_38, h.1, if_pos (nI_lt hk (by omega)), c15_in hP h.1 hk, ret1, s125_50 hS, s18, h.2.1, ret1, s125_71 hS, c58 hS (cG_pl h hk) (hok.2 k hk) (by omega) (by omega) (by omega) hw, ret1, s125_74 hS]
    exact fin
  · have hj2 := (shPlant L hj).1
    rw [s125_29v3 hj2, s16, ret1, s125_38v3 hj2, h.1, if_pos (nI_lt hk (by omega)), c15_in hP h.1 hk, ret1, s125_50v3 hj2 hS, s18, h.2.1, ret1, s125_71v2 hS, c58 hS (cG_pl h hk) (hok.2 k hk) (by omega) (by omega) (by omega) hw, ret1, s125_74v2 hS]
    exact fin
theorem c125_loop (hok : okP P) (hD : okD P D) (h : cG P D mi) (hw : word < 10) : ∀ r k v u, k + r = P.length → v2 v u → X 125 29 [.ref 2, .int (nI word), .int (nI (sN (runP P (rep P D) word) k)), .int (nI (sN (fun i => if 0 < runP P (rep P D) word i then 1 else 0) k)), .int (nI k), v, u] [] (SH L, mi, ml, MR) (d + 5) Q = Q (some (.int (nI (sN (runP P (rep P D) word) P.length)))) (SH L, xw mi 2 11 (nI (sN (fun i => if 0 < runP P (rep P D) word i then 1 else 0) P.length)), ml, MR) := by
  have hP := hok.1
  intro r
  induction r with
  | zero =>
    intro k v u hk hv
    rw [show k = P.length by omega]
    rcases hv with ⟨rfl, rfl⟩ | ⟨j, z, hj, rfl, rfl⟩
    · rw [s125_29, s16, ret1, s125_38, h.1, if_neg (nI_nlt (by omega) (by omega))]
    · rw [s125_29v3 (shPlant L hj).1, s16, ret1, s125_38v3 (shPlant L hj).1, h.1, if_neg (nI_nlt (by omega) (by omega))]
  | succ r ih =>
    intro k v u hk hv
    rw [c125_step hok hD h (by omega) hv hw, nI_add, nI_add]
    exact ih (k + 1) _ _ (by omega) (Or.inr ⟨k, _, (by omega : k < 6), rfl, rfl⟩)
theorem c182 (hi : i < 6) (hg : mgR mi g) (h : mpR mi i p) (hp : okp p) (hd : gD g < 500) (hw : gW g i < 100) (hq : q < 100) : Xm 182 [.ref 68, .int (nI i), .int (nI q)] (SH L, mi, ml, MR) (d + 3) Q = Q (some (.int (bI (mayP p (gW g i) q (gE g i) (gD g))))) (SH L, mi, ml, MR) := by
  rw [s182 (xin_w hi), mg_w hg hi, mg_d hg, c181 hi hg h hp hd hw hq, ret1, s182_21 bI_or]
theorem c214_52 (hi : i < 6) (hg : mgR mi g) (h : mpR mi i p) (hp : okp p) (hd : gD g < 500) (hwt : gW g i < 100) (hq : gP g i < 100) (hw : word < 10) : ∀ n r, r < 100 → n = opp p (gW g i) (gE g i) (gD g) (gP g i + r) → X 214 52 [.ref 68, .int (nI word), .int x2, .int x3, .int (nI i), .int (nI (gP g i + r))] [] (SH L, mi, ml, MR) (d + 4) Q = X 214 31 [.ref 68, .int (nI word), .int (x2 + nI (r + runN p word n (gP g i + r))), .int (x3 + nI (if 0 < r + runN p word n (gP g i + r) then 1 else 0)), .int (nI (i + 1)), .int (nI (gP g i + (r + runN p word n (gP g i + r))))] [] (SH L, mi, ml, MR) (d + 4) Q := by
  have fin : ∀ t, t < 200 → (if nI (gP g i) < nI (gP g i + t) then (X 214 31 [.ref 68, .int (nI word), .int (x2 + (nI (gP g i + t) - nI (gP g i))), .int (x3 + 1), .int (nI i + 1), .int (nI (gP g i + t))] [] (SH L, mi, ml, MR) (d + 4) Q) else (X 214 31 [.ref 68, .int (nI word), .int (x2 + (nI (gP g i + t) - nI (gP g i))), .int (x3 + 0), .int (nI i + 1), .int (nI (gP g i + t))] [] (SH L, mi, ml, MR) (d + 4) Q)) = X 214 31 [.ref 68, .int (nI word), .int (x2 + nI t), .int (x3 + nI (if 0 < t then 1 else 0)), .int (nI (i + 1)), .int (nI (gP g i + t))] [] (SH L, mi, ml, MR) (d + 4) Q := by
    intro t ht
    rw [nI_sub (by omega), Nat.add_sub_cancel_left, nI_1]
    by_cases h0 : 0 < t
    · rw [if_pos (nI_lt (by omega) (by omega)), if_pos h0]
      rfl
    · rw [if_neg (nI_nlt (by omega) (by omega)), if_neg h0]
      rfl
  intro n
  induction n with
  | zero =>
    intro r hr hn
    have hno : ¬ mayP p (gW g i) (gP g i + r) (gE g i) (gD g) := fun z => by have := opp_pos.mpr z; omega
    rw [s214_52 (fun _ => xin_p hi) (fun _ => xin_p hi), mg_p hg hi]
    by_cases h9 : gP g i + r < 9
    · rw [if_pos (show nI (gP g i + r) < 9 from nI_lt (b := 9) h9 (by omega)), c182 hi hg h hp hd hwt (by omega), ret1, bI_f hno, s214_67 (fun _ => xin_p hi) (fun _ => xin_p hi), mg_p hg hi, if_pos rfl]
      exact fin r (by omega)
    · rw [if_neg (show ¬ nI (gP g i + r) < 9 from nI_nlt (b := 9) (by omega) (by omega))]
      exact fin r (by omega)
  | succ n ih =>
    intro r hr hn
    have hyes : mayP p (gW g i) (gP g i + r) (gE g i) (gD g) := opp_pos.mp (by omega)
    have h9 : gP g i + r < 9 := by
      have h1 : ripeP p (gW g i) (gD g) ≤ 9 := ripeN_le _ _ _
      have := hyes.2.2
      omega
    have hw1 := wordP_lt p (gP g i + r)
    rw [s214_52 (fun _ => xin_p hi) (fun _ => xin_p hi), if_pos (show nI (gP g i + r) < 9 from nI_lt (b := 9) h9 (by omega)), c182 hi hg h hp hd hwt (by omega), ret1, bI_t hyes, s214_67 (fun _ => xin_p hi) (fun _ => xin_p hi), if_neg i1_ne0, c180 hi h hp (by omega), ret1, s214_78 (fun _ => xin_p hi) (fun _ => xin_p hi), mg_p hg hi, nI_1]
    unfold runN
    by_cases hx : wordP p (gP g i + r) = word
    · rw [if_pos (congrArg nI hx), if_pos hx]
      have hih := ih (r + 1) (by omega) (by rw [show gP g i + (r + 1) = gP g i + r + 1 by omega, opp_s]; omega)
      rw [show gP g i + (r + 1) = gP g i + r + 1 by omega] at hih
      rw [hih, show r + 1 + runN p word n (gP g i + r + 1) = r + (1 + runN p word n (gP g i + r + 1)) by omega]
    · rw [if_neg (fun z => hx (nI_inj (by omega) (by omega) z)), if_neg hx]
      exact fin r (by omega)
end OFTEN
theorem op_often (x : Int32) : OpI 125 214 [.int x] := op_of fun R T P D K S hok => by
  have hP := hok.1.1
  have hD := hok.2.1.1
  have hb := rep_le P D
  have h9 : (9 : Int64) = (nI 9).toInt64 := rfl
  have h0' : (0 : Int64) = (0 : Int32).toInt64 := rfl
  rcases num_cases x 10 (by omega) with hx | ⟨word, hw, rfl⟩
  · refine ex_ret (.int (-1)) ⟨_, rfl⟩ hok (fun L mi ml Q h k => ?_) (fun L mi ml Q h k => ?_)
    · have e : Xm 143 [.int x] (SH L, mi, ml, MR) 98 (fun v μ' => X 125 4 [.ref 2, .int x, xmk, xmk, xmk, xmk, xmk] (v.toList ++ []) μ' 99 Q) = X 125 4 [.ref 2, .int x, xmk, xmk, xmk, xmk, xmk] [.int 0] (SH L, mi, ml, MR) 99 Q := by
        rw [s143]
        by_cases h0 : x < 0
        · rw [if_pos h0, ret1]
        · rw [if_neg h0, if_neg (show ¬ x < 10 from hx.resolve_left h0), ret1]
      rw [s125, e, s125_4, if_pos rfl]
      exact k mi ml h sameM_rf
    · rw [s214, h9, h0', c149, ret1, bI_f (in_bad (n := 9) (by omega) hx), s214_9, if_pos rfl]
      exact k mi ml h sameC_rf
  have C1 : ∀ L mi ml Q, Cst R T P D K S mi ml → Xm 125 [.ref 2, .int (nI word)] (SH L, mi, ml, MR) 99 Q = X 125 16 [.ref 2, .int (nI word), xmk, xmk, xmk, xmk, xmk] [.int (if (0 : Int32) < nI P.length then 0 else 1)] (SH L, mi, ml, MR) 99 Q := fun L mi ml Q h => by
    rw [s125, s143, if_neg (nI_nneg (by omega)), if_pos (show nI word < 10 from nI_lt (b := 10) hw (by omega)), ret1, s125_4, if_neg i1_ne0, s17, h.2.2.1.1]
    split <;> rw [ret1]
  have M1 : ∀ L mi ml Q, Mst R T P D K S mi ml → Xm 214 [.ref 68, .int (nI word)] (SH L, mi, ml, MR) 99 Q = if nI P.length = 0 then Q (some (.int (-4))) (SH L, mi, ml, MR) else X 214 31 [.ref 68, .int (nI word), .int 0, .int 0, .int 0, xmk] [] (SH L, mi, ml, MR) 99 Q := fun L mi ml Q h => by
    rw [s214, h9, h0', c149, ret1, bI_t (in_ok (n := 9) (by omega) (by omega)), s214_9, if_neg i1_ne0, h.2.2.1.1]
  by_cases h0 : P.length = 0
  · refine ex_ret (.int (-4)) ⟨_, rfl⟩ hok (fun L mi ml Q h k => ?_) (fun L mi ml Q h k => ?_)
    · rw [C1 L mi ml Q h, h0, if_neg (by decide), s125_16, if_neg i1_ne0]; exact k mi ml h sameM_rf
    · rw [M1 L mi ml Q h, h0, if_pos (by decide)]; exact k mi ml h sameC_rf
  refine ex_S (.int (nI (sN (runP P (rep P D) word) P.length))) (sTold (nI (sN (fun i => if 0 < runP P (rep P D) word i then 1 else 0) P.length)) S) ⟨_, rfl⟩ hok (fun L mi ml Q h k => ?_) (fun L mi ml Q h k => ?_)
  · rw [C1 L mi ml Q h, if_pos ((nI_pos_iff (by omega)).mpr (by omega)), s125_16, if_pos rfl]
    refine Eq.mpr (c125_loop (d := 94) hok.1 hok.2.1 h.2.2.1 hw P.length 0 xmk xmk (by omega) (Or.inl ⟨rfl, rfl⟩)) ?_
    exact k _ _ (Cst_told hP h).1 (Cst_told hP h).2
  · have hg := mG_g h.2.2.1
    rw [M1 L mi ml Q h, if_neg (nI_ne0 (by omega) (by omega))]
    have step : ∀ k, k < P.length → ∀ x2 x3, X 214 52 [.ref 68, .int (nI word), .int x2, .int x3, .int (nI k), .int (nI (gP (rep P D) k))] [] (SH L, mi, ml, MR) 99 Q = X 214 31 [.ref 68, .int (nI word), .int (x2 + nI (runP P (rep P D) word k)), .int (x3 + nI (if 0 < runP P (rep P D) word k then 1 else 0)), .int (nI (k + 1)), .int (nI (gP (rep P D) k + runP P (rep P D) word k))] [] (SH L, mi, ml, MR) 99 Q := fun k hk x2 x3 => by
      have hbk := hb.2 k
      have := c214_52 (d := 95) (Q := Q) (ml := ml) (L := L) (x2 := x2) (x3 := x3) (i := k) (p := pl P k) (by omega) hg (mG_pl h.2.2.1 hk) (hok.1.2 k hk) (by omega) (by omega) (by omega) hw _ 0 (by omega) rfl
      simp only [Nat.add_zero, Nat.zero_add] at this
      exact this
    have main : ∀ r k v, k + r = P.length → (v = xmk ∨ ∃ z, v = .int z) → X 214 31 [.ref 68, .int (nI word), .int (nI (sN (runP P (rep P D) word) k)), .int (nI (sN (fun i => if 0 < runP P (rep P D) word i then 1 else 0) k)), .int (nI k), v] [] (SH L, mi, ml, MR) 99 Q = Q (some (.int (nI (sN (runP P (rep P D) word) P.length)))) (SH L, xw mi 68 14 (nI (sN (fun i => if 0 < runP P (rep P D) word i then 1 else 0) P.length)), ml, MR) := by
      intro r
      induction r with
      | zero =>
        intro k v hk hv
        have hn : ¬ nI k < nI P.length := nI_nlt (by omega) (by omega)
        have ek : k = P.length := by omega
        rcases hv with rfl | ⟨z, rfl⟩
        · rw [s214_31 (fun z => absurd z (by rw [h.2.2.1.1]; exact hn)), h.2.2.1.1, if_neg hn, s154, ret1, s214_139, ek]
        · rw [s214_31v2 (fun z => absurd z (by rw [h.2.2.1.1]; exact hn)), h.2.2.1.1, if_neg hn, s154, ret1, s214_139v2, ek]
      | succ r ih =>
        intro k v hk hv
        have hn : nI k < nI P.length := nI_lt (by omega) (by omega)
        have e : X 214 31 [.ref 68, .int (nI word), .int (nI (sN (runP P (rep P D) word) k)), .int (nI (sN (fun i => if 0 < runP P (rep P D) word i then 1 else 0) k)), .int (nI k), v] [] (SH L, mi, ml, MR) 99 Q = X 214 52 [.ref 68, .int (nI word), .int (nI (sN (runP P (rep P D) word) k)), .int (nI (sN (fun i => if 0 < runP P (rep P D) word i then 1 else 0) k)), .int (nI k), .int (nI (gP (rep P D) k))] [] (SH L, mi, ml, MR) 99 Q := by
          rcases hv with rfl | ⟨z, rfl⟩
          · rw [s214_31 (fun _ => xin_p (by omega)), h.2.2.1.1, if_pos hn, mg_p hg (by omega)]
          · rw [s214_31v2 (fun _ => xin_p (by omega)), h.2.2.1.1, if_pos hn, mg_p hg (by omega)]
        rw [e, step k (by omega), nI_add, nI_add]
        exact ih (k + 1) _ (by omega) (Or.inr ⟨_, rfl⟩)
    refine Eq.mpr (main P.length 0 xmk (by omega) (Or.inl rfl)) ?_
    exact k _ _ (Mst_told h).1 (Mst_told h).2
