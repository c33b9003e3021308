/-! rows: an instruction each -/
section ROWS
variable {mid pc d : Nat} {loc st : List Value} {μ : xM} {Q : Option Value → xM → Prop}
theorem R_pure {ins : Instr} {len c : Nat} {loc' st' : List Value} (hf : (xC mid).lookup pc = some (ins, len)) (hc : (xm mid).1 = c) (h : xpure c ins loc st = some (loc', st')) : X mid pc loc st μ d Q = X mid (pc + len) loc' st' μ d Q := by
  subst hc
  exact X_next (by simp only [xstep, hf, xins, h]; rfl)
theorem R_pure0 {ins : Instr} {len : Nat} {loc' st' : List Value} (hf : (xC mid).lookup pc = some (ins, len)) (h : ∀ c, xpure c ins loc st = some (loc', st')) : X mid pc loc st μ d Q = X mid (pc + len) loc' st' μ d Q := R_pure hf rfl (h _)
theorem R_go {ins : Instr} {len pc' : Nat} {loc' st' : List Value} {μ' : xM} (hf : (xC mid).lookup pc = some (ins, len)) (hp : ∀ c, xpure c ins loc st = none) (h : xjump ins pc loc st μ = some (.inl (pc', loc', st', μ'))) : X mid pc loc st μ d Q = X mid pc' loc' st' μ' d Q :=
  X_next (by simp only [xstep, hf, xins, hp, h])
theorem R_heap {ins : Instr} {len pc' : Nat} {loc' st' : List Value} {μ' : xM} (hf : (xC mid).lookup pc = some (ins, len)) (hp : ∀ c, xpure c ins loc st = none) (hj : xjump ins pc loc st μ = none) (h : xheap mid (xm mid).1 ins pc loc st μ = some (.inl (pc', loc', st', μ'))) : X mid pc loc st μ d Q = X mid pc' loc' st' μ' d Q :=
  X_next (by simp only [xstep, hf, xins, hp, hj, h])
theorem R_goto {off : Int} {t : Nat} (hf : (xC mid).lookup pc = some (.goto off, 3)) (ht : (pc : Int) + off = Int.ofNat t) : X mid pc loc st μ d Q = X mid t loc st μ d Q :=
  R_go hf (fun _ => rfl) (by simp only [xjump, xgo, ht]; rfl)
theorem X_br {b : Prop} {inst : Decidable b} {t : Nat} {off : Int} (ht : (pc : Int) + off = Int.ofNat t) (h : xstep mid pc loc st μ = xbr b pc off loc st μ) : True := trivial
theorem R_brg {ins : Instr} {len t : Nat} {off : Int} {st' : List Value} {b : Prop} {inst : Decidable b} (hf : (xC mid).lookup pc = some (ins, len)) (ht : (pc : Int) + off = Int.ofNat t) (hp : ∀ c, xpure c ins loc st = none) (h : xjump ins pc loc st μ = xbr b pc off loc st' μ) : X mid pc loc st μ d Q = if b then X mid t loc st' μ d Q else X mid (pc + 3) loc st' μ d Q := by
  split
  · rename_i hb
    exact R_go hf hp (by rw [h]; simp only [xbr, ht]; rw [if_pos hb]; rfl)
  · rename_i hb
    exact R_go hf hp (by rw [h]; simp only [xbr, ht]; rw [if_neg hb]; rfl)
theorem ite_flip {a b : Prop} {ia : Decidable a} {ib : Decidable b} (h : a ↔ ¬ b) {α : Sort _} (x y : α) : (if a then x else y) = if b then y else x := by
  by_cases hb : b
  · rw [if_neg (fun ha => h.mp ha hb), if_pos hb]
  · rw [if_pos (h.mpr hb), if_neg hb]
theorem ite_same' {a b : Prop} {ia : Decidable a} {ib : Decidable b} (h : a ↔ b) {α : Sort _} (x y : α) : (if a then x else y) = if b then x else y := by
  by_cases hb : b
  · rw [if_pos (h.mpr hb), if_pos hb]
  · rw [if_neg (fun ha => hb (h.mp ha)), if_neg hb]
theorem R_if_eq {x : Int32} {off : Int} {t : Nat} (hf : (xC mid).lookup pc = some (.ifCond .eq off, 3)) (ht : (pc : Int) + off = Int.ofNat t) : X mid pc loc (.int x :: st) μ d Q = if x = 0 then X mid t loc st μ d Q else X mid (pc + 3) loc st μ d Q :=
  (R_brg hf ht (fun _ => rfl) rfl).trans (ite_same' (by simp only [xcond, decide_eq_true_eq]) _ _)
theorem R_if_ne {x : Int32} {off : Int} {t : Nat} (hf : (xC mid).lookup pc = some (.ifCond .ne off, 3)) (ht : (pc : Int) + off = Int.ofNat t) : X mid pc loc (.int x :: st) μ d Q = if x = 0 then X mid (pc + 3) loc st μ d Q else X mid t loc st μ d Q :=
  (R_brg hf ht (fun _ => rfl) rfl).trans (ite_flip (by simp only [xcond, decide_eq_true_eq]) _ _)
theorem R_if_lt {x : Int32} {off : Int} {t : Nat} (hf : (xC mid).lookup pc = some (.ifCond .lt off, 3)) (ht : (pc : Int) + off = Int.ofNat t) : X mid pc loc (.int x :: st) μ d Q = if x < 0 then X mid t loc st μ d Q else X mid (pc + 3) loc st μ d Q :=
  (R_brg hf ht (fun _ => rfl) rfl).trans (ite_same' (by simp only [xcond, decide_eq_true_eq]) _ _)
theorem R_if_ge {x : Int32} {off : Int} {t : Nat} (hf : (xC mid).lookup pc = some (.ifCond .ge off, 3)) (ht : (pc : Int) + off = Int.ofNat t) : X mid pc loc (.int x :: st) μ d Q = if x < 0 then X mid (pc + 3) loc st μ d Q else X mid t loc st μ d Q :=
  (R_brg hf ht (fun _ => rfl) rfl).trans (ite_flip (by simp only [xcond, decide_eq_true_eq]; exact Int32.not_lt.symm) _ _)
theorem R_if_gt {x : Int32} {off : Int} {t : Nat} (hf : (xC mid).lookup pc = some (.ifCond .gt off, 3)) (ht : (pc : Int) + off = Int.ofNat t) : X mid pc loc (.int x :: st) μ d Q = if 0 < x then X mid t loc st μ d Q else X mid (pc + 3) loc st μ d Q :=
  (R_brg hf ht (fun _ => rfl) rfl).trans (ite_same' (by simp only [xcond, decide_eq_true_eq]) _ _)
theorem R_if_le {x : Int32} {off : Int} {t : Nat} (hf : (xC mid).lookup pc = some (.ifCond .le off, 3)) (ht : (pc : Int) + off = Int.ofNat t) : X mid pc loc (.int x :: st) μ d Q = if 0 < x then X mid (pc + 3) loc st μ d Q else X mid t loc st μ d Q :=
  (R_brg hf ht (fun _ => rfl) rfl).trans (ite_flip (by simp only [xcond, decide_eq_true_eq]; exact Int32.not_lt.symm) _ _)
theorem R_icmp_eq {x y : Int32} {off : Int} {t : Nat} (hf : (xC mid).lookup pc = some (.if_icmp .eq off, 3)) (ht : (pc : Int) + off = Int.ofNat t) : X mid pc loc (.int y :: .int x :: st) μ d Q = if x = y then X mid t loc st μ d Q else X mid (pc + 3) loc st μ d Q :=
  (R_brg hf ht (fun _ => rfl) rfl).trans (ite_same' (by simp only [xcond, decide_eq_true_eq]) _ _)
theorem R_icmp_ne {x y : Int32} {off : Int} {t : Nat} (hf : (xC mid).lookup pc = some (.if_icmp .ne off, 3)) (ht : (pc : Int) + off = Int.ofNat t) : X mid pc loc (.int y :: .int x :: st) μ d Q = if x = y then X mid (pc + 3) loc st μ d Q else X mid t loc st μ d Q :=
  (R_brg hf ht (fun _ => rfl) rfl).trans (ite_flip (by simp only [xcond, decide_eq_true_eq]) _ _)
theorem R_icmp_lt {x y : Int32} {off : Int} {t : Nat} (hf : (xC mid).lookup pc = some (.if_icmp .lt off, 3)) (ht : (pc : Int) + off = Int.ofNat t) : X mid pc loc (.int y :: .int x :: st) μ d Q = if x < y then X mid t loc st μ d Q else X mid (pc + 3) loc st μ d Q :=
  (R_brg hf ht (fun _ => rfl) rfl).trans (ite_same' (by simp only [xcond, decide_eq_true_eq]) _ _)
theorem R_icmp_ge {x y : Int32} {off : Int} {t : Nat} (hf : (xC mid).lookup pc = some (.if_icmp .ge off, 3)) (ht : (pc : Int) + off = Int.ofNat t) : X mid pc loc (.int y :: .int x :: st) μ d Q = if x < y then X mid (pc + 3) loc st μ d Q else X mid t loc st μ d Q :=
  (R_brg hf ht (fun _ => rfl) rfl).trans (ite_flip (by simp only [xcond, decide_eq_true_eq]; exact Int32.not_lt.symm) _ _)
theorem R_icmp_gt {x y : Int32} {off : Int} {t : Nat} (hf : (xC mid).lookup pc = some (.if_icmp .gt off, 3)) (ht : (pc : Int) + off = Int.ofNat t) : X mid pc loc (.int y :: .int x :: st) μ d Q = if y < x then X mid t loc st μ d Q else X mid (pc + 3) loc st μ d Q :=
  (R_brg hf ht (fun _ => rfl) rfl).trans (ite_same' (by simp only [xcond, decide_eq_true_eq]) _ _)
theorem R_icmp_le {x y : Int32} {off : Int} {t : Nat} (hf : (xC mid).lookup pc = some (.if_icmp .le off, 3)) (ht : (pc : Int) + off = Int.ofNat t) : X mid pc loc (.int y :: .int x :: st) μ d Q = if y < x then X mid (pc + 3) loc st μ d Q else X mid t loc st μ d Q :=
  (R_brg hf ht (fun _ => rfl) rfl).trans (ite_flip (by simp only [xcond, decide_eq_true_eq]; exact Int32.not_lt.symm) _ _)
theorem R_ifnull_r {a : Nat} {off : Int} (hf : (xC mid).lookup pc = some (.ifnull off, 3)) : X mid pc loc (.ref a :: st) μ d Q = X mid (pc + 3) loc st μ d Q := R_go hf (fun _ => rfl) rfl
theorem R_ifnull_n {off : Int} {t : Nat} (hf : (xC mid).lookup pc = some (.ifnull off, 3)) (ht : (pc : Int) + off = Int.ofNat t) : X mid pc loc (.null :: st) μ d Q = X mid t loc st μ d Q := R_go hf (fun _ => rfl) (by simp only [xjump, xgo, ht]; rfl)
theorem R_ifnonnull_n {off : Int} (hf : (xC mid).lookup pc = some (.ifnonnull off, 3)) : X mid pc loc (.null :: st) μ d Q = X mid (pc + 3) loc st μ d Q := R_go hf (fun _ => rfl) rfl
theorem R_ifnonnull_r {a : Nat} {off : Int} {t : Nat} (hf : (xC mid).lookup pc = some (.ifnonnull off, 3)) (ht : (pc : Int) + off = Int.ofNat t) : X mid pc loc (.ref a :: st) μ d Q = X mid t loc st μ d Q := R_go hf (fun _ => rfl) (by simp only [xjump, xgo, ht]; rfl)
/-- a switch: its cases one by one -/
def xsw (x : Int32) (lo : Nat) (ts : List Nat) (df : Nat) (k : Nat → Prop) : Prop := match ts with
  | [] => k df
  | t :: r => if x = Int32.ofNat lo then k t else xsw x (lo + 1) r df k
theorem xsw_out {x : Int32} {df : Nat} {k : Nat → Prop} : ∀ (ts : List Nat) (lo : Nat), lo + ts.length < 1000 → (x.toInt < lo ∨ (lo + ts.length : Int) ≤ x.toInt) → xsw x lo ts df k = k df := by
  intro ts
  induction ts with
  | nil => intro lo _ _; rfl
  | cons t r ih =>
    intro lo hl h
    simp only [List.length_cons] at hl h
    have hne : ¬ x = Int32.ofNat lo := by
      intro e
      have : x.toInt = lo := by rw [e]; exact nI_toInt (by omega)
      omega
    simp only [xsw, if_neg hne]
    exact ih (lo + 1) (by omega) (by omega)
theorem xsw_in {x : Int32} {df : Nat} {k : Nat → Prop} : ∀ (ts : List Nat) (lo i t : Nat), lo + ts.length < 1000 → x.toInt = lo + i → ts[i]? = some t → xsw x lo ts df k = k t := by
  intro ts
  induction ts with
  | nil => intro lo i t _ _ h; simp at h
  | cons t0 r ih =>
    intro lo i t hl hx h
    simp only [List.length_cons] at hl
    cases i with
    | zero =>
      have : x = Int32.ofNat lo := Int32.toInt_inj.mp (by rw [hx]; exact (nI_toInt (by omega)).symm)
      simp only [xsw, if_pos this]
      cases h
      rfl
    | succ i =>
      have hne : ¬ x = Int32.ofNat lo := by
        intro e
        have : x.toInt = lo := by rw [e]; exact nI_toInt (by omega)
        omega
      simp only [xsw, if_neg hne]
      exact ih (lo + 1) i t (by omega) (by omega) (by simpa using h)
theorem R_switch {x : Int32} {df : Int} {lo hi : Int} {offs : Array Int} {len l0 dt : Nat} {ts : List Nat} (hf : (xC mid).lookup pc = some (.tableswitch df lo hi offs, len)) (hs : decide (lo = (l0 : Int)) && decide (hi + 1 = (l0 : Int) + ts.length) && decide (l0 + ts.length < 1000) && decide ((pc : Int) + df = Int.ofNat dt) && decide (offs.toList.map (fun o => (pc : Int) + o) = ts.map Int.ofNat) = true) :
    X mid pc loc (.int x :: st) μ d Q = xsw x l0 ts dt (fun t => X mid t loc st μ d Q) := by
  simp only [Bool.and_eq_true, decide_eq_true_eq] at hs
  obtain ⟨⟨⟨⟨h1, h2⟩, h3⟩, h4⟩, h5⟩ := hs
  by_cases hr : x.toInt < lo ∨ hi < x.toInt
  · rw [xsw_out ts l0 h3 (by omega)]
    exact R_go hf (fun _ => rfl) (by simp only [xjump, if_pos hr, xgo, h4]; rfl)
  · have hi2 : (x.toInt - lo).toNat < ts.length := by omega
    have ho : offs[(x.toInt - lo).toNat]? = (offs.toList)[(x.toInt - lo).toNat]? := by simp
    have h6 : (offs.toList.map (fun o => (pc : Int) + o))[(x.toInt - lo).toNat]? = (ts.map Int.ofNat)[(x.toInt - lo).toNat]? := by rw [h5]
    rw [List.getElem?_map, List.getElem?_map, List.getElem?_eq_getElem hi2, ← ho] at h6
    cases hq : offs[(x.toInt - lo).toNat]? with
    | none => rw [hq] at h6; cases h6
    | some off =>
      rw [hq] at h6
      simp only [Option.map_some, Option.some.injEq] at h6
      rw [xsw_in ts l0 (x.toInt - lo).toNat _ h3 (by omega) (List.getElem?_eq_getElem hi2)]
      exact R_go hf (fun _ => rfl) (by simp only [xjump, if_neg hr, hq, xgo, h6]; rfl)
/-! cells -/
theorem R_getfield {i a ci k n : Nat} {nest : Bool} {q : Nat} (hf : (xC mid).lookup pc = some (.getfield i, 3)) (hk : (xFT.lookup ((xm mid).1 * 1000 + i)).map (fun e => (e.2.1, e.2.2.1)) = some (ci, k)) (hs : μ.1[a]? = some (ci, n)) : X mid pc loc (.ref a :: st) μ d Q = X mid (pc + 3) loc (xget ci k a μ :: st) μ d Q := by
  refine R_heap hf (fun _ => rfl) rfl ?_
  cases hq : xFT.lookup ((xm mid).1 * 1000 + i) with
  | none => rw [hq] at hk; cases hk
  | some e =>
    obtain ⟨e1, e2, e3, e4⟩ := e
    rw [hq] at hk
    cases hk
    simp only [xheap, hq, hs, if_pos]
    rfl
theorem R_gi {i a ci k n : Nat} (hf : (xC mid).lookup pc = some (.getfield i, 3)) (hk : (xFT.lookup ((xm mid).1 * 1000 + i)).map (fun e => (e.2.1, e.2.2.1)) = some (ci, k)) (ht : xft ci k = 0 ∨ xft ci k = 3) (hs : μ.1[a]? = some (ci, n)) : X mid pc loc (.ref a :: st) μ d Q = X mid (pc + 3) loc (.int (μ.2.1 a k) :: st) μ d Q := by
  rw [R_getfield (nest := false) (q := 0) hf hk hs]
  rcases ht with ht | ht <;> simp only [xget, ht]
theorem R_gl {i a ci k n : Nat} (hf : (xC mid).lookup pc = some (.getfield i, 3)) (hk : (xFT.lookup ((xm mid).1 * 1000 + i)).map (fun e => (e.2.1, e.2.2.1)) = some (ci, k)) (ht : xft ci k = 1) (hs : μ.1[a]? = some (ci, n)) : X mid pc loc (.ref a :: st) μ d Q = X mid (pc + 3) loc (.long (μ.2.2.1 a k) :: st) μ d Q := by
  rw [R_getfield (nest := false) (q := 0) hf hk hs]
  simp only [xget, ht]
theorem R_gr {i a ci k n b : Nat} (hf : (xC mid).lookup pc = some (.getfield i, 3)) (hk : (xFT.lookup ((xm mid).1 * 1000 + i)).map (fun e => (e.2.1, e.2.2.1)) = some (ci, k)) (ht : xft ci k = 2) (hs : μ.1[a]? = some (ci, n)) (hr : μ.2.2.2 a k = some b) : X mid pc loc (.ref a :: st) μ d Q = X mid (pc + 3) loc (.ref b :: st) μ d Q := by
  rw [R_getfield (nest := false) (q := 0) hf hk hs]
  simp only [xget, ht, hr, va_rf]
theorem R_putfield {i a ci k n : Nat} {v : Value} {μ' : xM} (hf : (xC mid).lookup pc = some (.putfield i, 3)) (hk : (xFT.lookup ((xm mid).1 * 1000 + i)).map (fun e => (e.2.1, e.2.2.1)) = some (ci, k)) (hp : ∀ b, xput b ci k a v μ = some μ') (hs : μ.1[a]? = some (ci, n)) : X mid pc loc (v :: .ref a :: st) μ d Q = X mid (pc + 3) loc st μ' d Q := by
  refine R_heap hf (fun _ => rfl) rfl ?_
  cases hq : xFT.lookup ((xm mid).1 * 1000 + i) with
  | none => rw [hq] at hk; cases hk
  | some e =>
    obtain ⟨e1, e2, e3, e4⟩ := e
    rw [hq] at hk
    cases hk
    simp only [xheap, hq, hs, if_pos, hp]
    rfl
theorem R_pi {i a ci k n : Nat} {x : Int32} (hf : (xC mid).lookup pc = some (.putfield i, 3)) (hk : (xFT.lookup ((xm mid).1 * 1000 + i)).map (fun e => (e.2.1, e.2.2.1)) = some (ci, k)) (ht : xft ci k = 0) (hs : μ.1[a]? = some (ci, n)) : X mid pc loc (.int x :: .ref a :: st) μ d Q = X mid (pc + 3) loc st (μ.1, xw μ.2.1 a k x, μ.2.2.1, μ.2.2.2) d Q :=
  R_putfield hf hk (fun _ => by simp only [xput, ht]) hs
theorem R_pz {i a ci k n : Nat} {x : Int32} (hf : (xC mid).lookup pc = some (.putfield i, 3)) (hk : (xFT.lookup ((xm mid).1 * 1000 + i)).map (fun e => (e.2.1, e.2.2.1)) = some (ci, k)) (ht : xft ci k = 3) (hx : x = 0 ∨ x = 1) (hs : μ.1[a]? = some (ci, n)) : X mid pc loc (.int x :: .ref a :: st) μ d Q = X mid (pc + 3) loc st (μ.1, xw μ.2.1 a k x, μ.2.2.1, μ.2.2.2) d Q :=
  R_putfield hf hk (fun _ => by simp only [xput, ht, if_pos hx]) hs
theorem R_pl {i a ci k n : Nat} {x : Int64} (hf : (xC mid).lookup pc = some (.putfield i, 3)) (hk : (xFT.lookup ((xm mid).1 * 1000 + i)).map (fun e => (e.2.1, e.2.2.1)) = some (ci, k)) (ht : xft ci k = 1) (hs : μ.1[a]? = some (ci, n)) : X mid pc loc (.long x :: .ref a :: st) μ d Q = X mid (pc + 3) loc st (μ.1, μ.2.1, xw μ.2.2.1 a k x, μ.2.2.2) d Q :=
  R_putfield hf hk (fun _ => by simp only [xput, ht]) hs
theorem R_getstatic {i : Nat} (hf : (xC mid).lookup pc = some (.getstatic i, 3)) (hk : (xST.lookup ((xm mid).1 * 1000 + i)).isSome = true) : X mid pc loc st μ d Q = X mid (pc + 3) loc (.ref 1 :: st) μ d Q := by
  refine R_heap hf (fun _ => rfl) rfl ?_
  obtain ⟨e, he⟩ := Option.isSome_iff_exists.mp hk
  simp only [xheap, he]
  rfl
theorem R_new {i ci n : Nat} (hf : (xC mid).lookup pc = some (.new i, 3)) (hk : (xCT.lookup ((xm mid).1 * 1000 + i)).map (fun e => e.1) = some ci) (hn : (xFy.getD ci []).length = n) : X mid pc loc st μ d Q = X mid (pc + 3) loc (.ref μ.1.length :: st) (xmake (ci, n) μ) d Q := by
  refine R_heap hf (fun _ => rfl) rfl ?_
  cases hq : xCT.lookup ((xm mid).1 * 1000 + i) with
  | none => rw [hq] at hk; cases hk
  | some e =>
    obtain ⟨e1, e2⟩ := e
    rw [hq] at hk
    cases hk
    subst hn
    simp only [xheap, hq]
    rfl
theorem R_arraylength {a kd n : Nat} (hf : (xC mid).lookup pc = some (.arraylength, 1)) (hs : μ.1[a]? = some (kd, n)) (hk : 100 ≤ kd ∧ kd ≤ 105) : X mid pc loc (.ref a :: st) μ d Q = X mid (pc + 1) loc (.int (Int32.ofNat n) :: st) μ d Q :=
  R_heap hf (fun _ => rfl) rfl (by simp only [xheap, hs, if_pos hk]; rfl)
theorem R_iaload {a kd n : Nat} {i : Int32} (hf : (xC mid).lookup pc = some (.iaload, 1)) (hs : μ.1[a]? = some (kd, n)) (hk : kd = 100 ∨ kd = 105) (hi : xin i n = true) : X mid pc loc (.int i :: .ref a :: st) μ d Q = X mid (pc + 1) loc (.int (μ.2.1 a i.toNatClampNeg) :: st) μ d Q :=
  R_heap hf (fun _ => rfl) rfl (by simp only [xheap, hs, if_pos (And.intro hk hi)]; rfl)
theorem R_laload {a n : Nat} {i : Int32} (hf : (xC mid).lookup pc = some (.laload, 1)) (hs : μ.1[a]? = some (101, n)) (hi : xin i n = true) : X mid pc loc (.int i :: .ref a :: st) μ d Q = X mid (pc + 1) loc (.long (μ.2.2.1 a i.toNatClampNeg) :: st) μ d Q :=
  R_heap hf (fun _ => rfl) rfl (by simp only [xheap, hs, hi, and_self, if_true]; rfl)
theorem R_baload {a n : Nat} {i : Int32} (hf : (xC mid).lookup pc = some (.baload, 1)) (hs : μ.1[a]? = some (102, n)) (hi : xin i n = true) : X mid pc loc (.int i :: .ref a :: st) μ d Q = X mid (pc + 1) loc (.int (μ.2.1 a i.toNatClampNeg) :: st) μ d Q :=
  R_heap hf (fun _ => rfl) rfl (by simp only [xheap, hs, hi, and_self, if_true]; rfl)
theorem R_aaload {a kd n b : Nat} {i : Int32} (hf : (xC mid).lookup pc = some (.aaload, 1)) (hs : μ.1[a]? = some (kd, n)) (hk : kd = 103 ∨ kd = 104) (hi : xin i n = true) (hr : μ.2.2.2 a i.toNatClampNeg = some b) : X mid pc loc (.int i :: .ref a :: st) μ d Q = X mid (pc + 1) loc (.ref b :: st) μ d Q :=
  R_heap hf (fun _ => rfl) rfl (by simp only [xheap, hs, if_pos (And.intro hk hi), hr, va_rf]; rfl)
theorem R_iastore {a n : Nat} {i x : Int32} (hf : (xC mid).lookup pc = some (.iastore, 1)) (hs : μ.1[a]? = some (100, n)) (hi : xin i n = true) : X mid pc loc (.int x :: .int i :: .ref a :: st) μ d Q = X mid (pc + 1) loc st (μ.1, xw μ.2.1 a i.toNatClampNeg x, μ.2.2.1, μ.2.2.2) d Q :=
  R_heap hf (fun _ => rfl) rfl (by simp only [xheap, hs, hi, and_self, if_true]; rfl)
theorem R_lastore {a n : Nat} {i : Int32} {x : Int64} (hf : (xC mid).lookup pc = some (.lastore, 1)) (hs : μ.1[a]? = some (101, n)) (hi : xin i n = true) : X mid pc loc (.long x :: .int i :: .ref a :: st) μ d Q = X mid (pc + 1) loc st (μ.1, μ.2.1, xw μ.2.2.1 a i.toNatClampNeg x, μ.2.2.2) d Q :=
  R_heap hf (fun _ => rfl) rfl (by simp only [xheap, hs, hi, and_self, if_true]; rfl)
theorem R_bastore {a n : Nat} {i x : Int32} (hf : (xC mid).lookup pc = some (.bastore, 1)) (hs : μ.1[a]? = some (102, n)) (hi : xin i n = true) (hx : x = 0 ∨ x = 1) : X mid pc loc (.int x :: .int i :: .ref a :: st) μ d Q = X mid (pc + 1) loc st (μ.1, xw μ.2.1 a i.toNatClampNeg x, μ.2.2.1, μ.2.2.2) d Q :=
  R_heap hf (fun _ => rfl) rfl (by simp only [xheap, hs, hi, hx, and_self, if_true]; rfl)
/-! calls and ends -/
theorem R_calls {ins : Instr} {len pc' : Nat} {loc' st' : List Value} {μ' : xM} (hf : (xC mid).lookup pc = some (ins, len)) (hp : ∀ c, xpure c ins loc st = none) (hj : xjump ins pc loc st μ = none) (hh : xheap mid (xm mid).1 ins pc loc st μ = none) (h : xcalls mid (xm mid).1 ins pc loc st μ = some (.inl (pc', loc', st', μ'))) : X mid pc loc st μ d Q = X mid pc' loc' st' μ' d Q :=
  X_next (by simp only [xstep, hf, xins, hp, hj, hh, h])
theorem R_inv {ins : Instr} {len kd f : Nat} {as rest : List Value} (hf : (xC mid).lookup pc = some (ins, len)) (hp : ∀ c, xpure c ins loc st = none) (hj : xjump ins pc loc st μ = none) (hh : xheap mid (xm mid).1 ins pc loc st μ = none) (h : xcalls mid (xm mid).1 ins pc loc st μ = some (.inr (.inr (f, as, rest)))) : X mid pc loc st μ (d + 1) Q = Xm f as μ d (fun v μ' => X mid (pc + 3) loc (v.toList ++ rest) μ' (d + 1) Q) :=
  X_call (by simp only [xstep, hf, xins, hp, hj, hh, h])
theorem xcall_ok {f : Nat} {as rest : List Value} (h1 : xcat rest = true) (h2 : (xsl as).length ≤ (xm f).2.2.2.1) : xcall f as rest = some (.inr (.inr (f, as, rest))) := by simp [xcall, h1, h2]
/-- a call of a method of an object; the arguments lie on the stack, last on top -/
theorem R_virt {i f kd b n ci na ml : Nat} {As rest : List Value} (hf : (xC mid).lookup pc = some (.invokevirtual i, 3)) (hk : (xIT.lookup ((xm mid).1 * 1000 + i)).map (fun e => (e.1, e.2.1)) = some (kd, f)) (hkd : kd ≤ 1) (hn0 : (xm f).2.2.2.2.2.1 = na) (hna : As.length = na) (hci : xci (xm f).1 = ci) (hs : μ.1[b]? = some (ci, n)) (h1 : xcat rest = true) (hml : (xm f).2.2.2.1 = ml) (h20 : (xsl (.ref b :: As)).length ≤ ml) :
    X mid pc loc (As.reverse ++ .ref b :: rest) μ (d + 1) Q = Xm f (.ref b :: As) μ d (fun v μ' => X mid (pc + 3) loc (v.toList ++ rest) μ' (d + 1) Q) := by
  have hn := hn0.trans hna.symm
  have h2 := Nat.le_trans h20 (Nat.le_of_eq hml.symm)
  refine R_inv (kd := kd) hf (fun _ => rfl) rfl rfl ?_
  cases hq : xIT.lookup ((xm mid).1 * 1000 + i) with
  | none => rw [hq] at hk; cases hk
  | some e =>
    obtain ⟨e1, e2, e3⟩ := e
    rw [hq] at hk
    cases hk
    have t1 : (As.reverse ++ .ref b :: rest).take As.length = As.reverse := by rw [List.take_append_of_le_length (by simp), List.take_of_length_le (by simp)]
    have t2 : (As.reverse ++ .ref b :: rest).drop As.length = .ref b :: rest := by rw [List.drop_append_of_le_length (by simp), List.drop_of_length_le (by simp)]; rfl
    simp only [xcalls, hq, if_pos hkd, xinv, hn, t1, t2, List.length_reverse, if_true, List.reverse_reverse]
    rcases (show e1 = 0 ∨ e1 = 1 by omega) with rfl | rfl <;> simp only [hs, hci, if_true, xcall_ok h1 h2]
theorem R_static {i f kd na ml : Nat} {As rest : List Value} (hf : (xC mid).lookup pc = some (.invokestatic i, 3)) (hk : (xIT.lookup ((xm mid).1 * 1000 + i)).map (fun e => (e.1, e.2.1)) = some (kd, f)) (hkd : kd = 2 ∨ kd = 3) (hn0 : (xm f).2.2.2.2.2.1 = na) (hna : As.length = na) (h1 : xcat rest = true) (hml : (xm f).2.2.2.1 = ml) (h20 : (xsl As).length ≤ ml) :
    X mid pc loc (As.reverse ++ rest) μ (d + 1) Q = Xm f As μ d (fun v μ' => X mid (pc + 3) loc (v.toList ++ rest) μ' (d + 1) Q) := by
  have hn := hn0.trans hna.symm
  have h2 := Nat.le_trans h20 (Nat.le_of_eq hml.symm)
  refine R_inv (kd := kd) hf (fun _ => rfl) rfl rfl ?_
  cases hq : xIT.lookup ((xm mid).1 * 1000 + i) with
  | none => rw [hq] at hk; cases hk
  | some e =>
    obtain ⟨e1, e2, e3⟩ := e
    rw [hq] at hk
    cases hk
    have t1 : (As.reverse ++ rest).take As.length = As.reverse := by rw [List.take_append_of_le_length (by simp), List.take_of_length_le (by simp)]
    have t2 : (As.reverse ++ rest).drop As.length = rest := by rw [List.drop_append_of_le_length (by simp), List.drop_of_length_le (by simp)]; rfl
    simp only [xcalls, hq, if_neg (show ¬ e1 = 7 by omega), if_neg (show ¬ e1 = 8 by omega), if_neg (show ¬ e1 = 9 by omega), if_pos hkd, xinv, hn, t1, t2, List.length_reverse, if_true, List.reverse_reverse]
    rcases hkd with rfl | rfl <;> simp only [xcall_ok h1 h2]
theorem R_max {i f : Nat} {x y : Int32} {rest : List Value} (hf : (xC mid).lookup pc = some (.invokestatic i, 3)) (hk : (xIT.lookup ((xm mid).1 * 1000 + i)).map (fun e => (e.1, e.2.1)) = some (8, f)) (h1 : xcat rest = true) : X mid pc loc (.int y :: .int x :: rest) μ d Q = X mid (pc + 3) loc (.int (if x < y then y else x) :: rest) μ d Q := by
  refine R_calls hf (fun _ => rfl) rfl rfl ?_
  cases hq : xIT.lookup ((xm mid).1 * 1000 + i) with
  | none => rw [hq] at hk; cases hk
  | some e =>
    obtain ⟨e1, e2, e3⟩ := e
    rw [hq] at hk
    cases hk
    simp only [xcalls, hq, if_neg (show ¬ 8 = 7 by omega), if_true, h1]
    rfl
theorem R_min {i f : Nat} {x y : Int32} {rest : List Value} (hf : (xC mid).lookup pc = some (.invokestatic i, 3)) (hk : (xIT.lookup ((xm mid).1 * 1000 + i)).map (fun e => (e.1, e.2.1)) = some (9, f)) (h1 : xcat rest = true) : X mid pc loc (.int y :: .int x :: rest) μ d Q = X mid (pc + 3) loc (.int (if y < x then y else x) :: rest) μ d Q := by
  refine R_calls hf (fun _ => rfl) rfl rfl ?_
  cases hq : xIT.lookup ((xm mid).1 * 1000 + i) with
  | none => rw [hq] at hk; cases hk
  | some e =>
    obtain ⟨e1, e2, e3⟩ := e
    rw [hq] at hk
    cases hk
    simp only [xcalls, hq, if_neg (show ¬ 9 = 7 by omega), if_neg (show ¬ 9 = 8 by omega), if_true, h1]
    rfl
theorem R_arraycopy {i f a0 a1 n0 n1 : Nat} {sp dp n : Int32} {rest : List Value} (hf : (xC mid).lookup pc = some (.invokestatic i, 3)) (hk : (xIT.lookup ((xm mid).1 * 1000 + i)).map (fun e => (e.1, e.2.1)) = some (7, f)) (hs0 : μ.1[a0]? = some (100, n0)) (hs1 : μ.1[a1]? = some (100, n1)) (hc : ¬ sp < 0 ∧ ¬ dp < 0 ∧ ¬ n < 0 ∧ sp.toNatClampNeg + n.toNatClampNeg ≤ n0 ∧ dp.toNatClampNeg + n.toNatClampNeg ≤ n1 ∧ xcat rest = true) :
    X mid pc loc (.int n :: .int dp :: .ref a1 :: .int sp :: .ref a0 :: rest) μ d Q = X mid (pc + 3) loc rest (μ.1, xcpy μ.2.1 a0 sp.toNatClampNeg a1 dp.toNatClampNeg n.toNatClampNeg, μ.2.2.1, μ.2.2.2) d Q := by
  refine R_calls hf (fun _ => rfl) rfl rfl ?_
  cases hq : xIT.lookup ((xm mid).1 * 1000 + i) with
  | none => rw [hq] at hk; cases hk
  | some e =>
    obtain ⟨e1, e2, e3⟩ := e
    rw [hq] at hk
    cases hk
    simp only [xcalls, hq, if_true, xarc, hs0, hs1, if_pos hc]
    rfl
theorem R_init {i f kd b : Nat} {As rest : List Value} (hf : (xC mid).lookup pc = some (.invokespecial i, 3)) (hk : (xIT.lookup ((xm mid).1 * 1000 + i)).map (fun e => (e.1, e.2.1)) = some (kd, f)) (hkd : kd = 4 ∨ kd = 5) (hn : (xm f).2.2.2.2.2.1 = As.length) (h1 : xcat rest = true) (h2 : (xsl (.ref b :: As)).length ≤ (xm f).2.2.2.1) :
    X mid pc loc (As.reverse ++ .ref b :: rest) μ (d + 1) Q = Xm f (.ref b :: As) μ d (fun v μ' => X mid (pc + 3) loc (v.toList ++ rest) μ' (d + 1) Q) := by
  refine R_inv (kd := kd) hf (fun _ => rfl) rfl rfl ?_
  cases hq : xIT.lookup ((xm mid).1 * 1000 + i) with
  | none => rw [hq] at hk; cases hk
  | some e =>
    obtain ⟨e1, e2, e3⟩ := e
    rw [hq] at hk
    cases hk
    have t1 : (As.reverse ++ .ref b :: rest).take As.length = As.reverse := by rw [List.take_append_of_le_length (by simp), List.take_of_length_le (by simp)]
    have t2 : (As.reverse ++ .ref b :: rest).drop As.length = .ref b :: rest := by rw [List.drop_append_of_le_length (by simp), List.drop_of_length_le (by simp)]; rfl
    simp only [xcalls, hq, if_neg (show ¬ e1 = 6 by omega), if_pos hkd, xinv, hn, t1, t2, List.length_reverse, if_true, List.reverse_reverse]
    rcases hkd with rfl | rfl <;> simp only [xcall_ok h1 h2]
theorem R_ret {ins : Instr} {len : Nat} {v : Option Value} (hf : (xC mid).lookup pc = some (ins, len)) (hp : ∀ c, xpure c ins loc st = none) (hj : xjump ins pc loc st μ = none) (hh : xheap mid (xm mid).1 ins pc loc st μ = none) (h : xcalls mid (xm mid).1 ins pc loc st μ = some (.inr (.inl v))) : X mid pc loc st μ d Q = Q v μ :=
  X_ret (by simp only [xstep, hf, xins, hp, hj, hh, h])
theorem R_ireturn {x : Int32} (hf : (xC mid).lookup pc = some (.ireturn, 1)) (ht : (xm mid).2.2.2.2.1 = some .int) : X mid pc loc [.int x] μ d Q = Q (some (.int x)) μ := R_ret hf (fun _ => rfl) rfl rfl (by simp only [xcalls, ht])
theorem R_zreturn {x : Int32} (hf : (xC mid).lookup pc = some (.ireturn, 1)) (ht : (xm mid).2.2.2.2.1 = some .boolean) (hx : x = 0 ∨ x = 1) : X mid pc loc [.int x] μ d Q = Q (some (.int x)) μ := R_ret hf (fun _ => rfl) rfl rfl (by simp only [xcalls, ht, if_pos hx])
theorem R_lreturn {x : Int64} (hf : (xC mid).lookup pc = some (.lreturn, 1)) (ht : (xm mid).2.2.2.2.1 = some .long) : X mid pc loc [.long x] μ d Q = Q (some (.long x)) μ := R_ret hf (fun _ => rfl) rfl rfl (by simp only [xcalls, ht])
theorem R_areturn {a : Nat} {nm : String} (hf : (xC mid).lookup pc = some (.areturn, 1)) (ht : (xm mid).2.2.2.2.1 = some (.object nm)) : X mid pc loc [.ref a] μ d Q = Q (some (.ref a)) μ := R_ret hf (fun _ => rfl) rfl rfl (by simp only [xcalls, ht])
theorem R_nreturn {nm : String} (hf : (xC mid).lookup pc = some (.areturn, 1)) (ht : (xm mid).2.2.2.2.1 = some (.object nm)) : X mid pc loc [.null] μ d Q = Q (some .null) μ := R_ret hf (fun _ => rfl) rfl rfl (by simp only [xcalls, ht])
theorem R_return (hf : (xC mid).lookup pc = some (.return_, 1)) (ht : (xm mid).2.2.2.2.1 = none) : X mid pc loc [] μ d Q = Q none μ := R_ret hf (fun _ => rfl) rfl rfl (by simp only [xcalls, ht])
end ROWS
