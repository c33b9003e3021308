/-! words for the segments -/
section WORDS
variable {mid pc d : Nat} {loc st : List Value} {μ : xM} {Q : Option Value → xM → Prop}
theorem Xm_ent {f n : Nat} {as loc : List Value} (hn : (xm f).2.2.2.1 = n) (h : xsl as ++ List.replicate (n - (xsl as).length) xmk = loc) : Xm f as μ d Q = X f 0 loc [] μ d Q := by
  unfold Xm xent
  rw [hn, h]
theorem R_iconst {n : Int} {v : Int32} (hf : (xC mid).lookup pc = some (.iconst n, 1)) (hv : Int32.ofInt n = v) : X mid pc loc st μ d Q = X mid (pc + 1) loc (.int v :: st) μ d Q := by
  subst hv; exact R_pure0 hf (fun _ => rfl)
theorem R_bipush {n : Int} {v : Int32} (hf : (xC mid).lookup pc = some (.bipush n, 2)) (hv : (Int8.ofInt n).toInt32 = v) : X mid pc loc st μ d Q = X mid (pc + 2) loc (.int v :: st) μ d Q := by
  subst hv; exact R_pure0 hf (fun _ => rfl)
theorem R_sipush {n : Int} {v : Int32} (hf : (xC mid).lookup pc = some (.sipush n, 3)) (hv : (Int16.ofInt n).toInt32 = v) : X mid pc loc st μ d Q = X mid (pc + 3) loc (.int v :: st) μ d Q := by
  subst hv; exact R_pure0 hf (fun _ => rfl)
theorem R_lconst {n : Fin 2} {v : Int64} (hf : (xC mid).lookup pc = some (.lconst n, 1)) (hv : Int64.ofNat (n : Nat) = v) : X mid pc loc st μ d Q = X mid (pc + 1) loc (.long v :: st) μ d Q := by
  subst hv; exact R_pure0 hf (fun _ => rfl)
theorem R_ldc {i : Nat} {v : Int32} (hf : (xC mid).lookup pc = some (.ldc i, 2)) (hv : (xKI.lookup ((xm mid).1 * 1000 + i)).map (fun e => e.1) = some v) : X mid pc loc st μ d Q = X mid (pc + 2) loc (.int v :: st) μ d Q := by
  refine R_pure hf rfl ?_
  cases hq : xKI.lookup ((xm mid).1 * 1000 + i) with
  | none => rw [hq] at hv; cases hv
  | some e => obtain ⟨e1, e2⟩ := e; rw [hq] at hv; cases hv; simp only [xpure, hq]
theorem R_ldc_w {i : Nat} {v : Int32} (hf : (xC mid).lookup pc = some (.ldc_w i, 3)) (hv : (xKI.lookup ((xm mid).1 * 1000 + i)).map (fun e => e.1) = some v) : X mid pc loc st μ d Q = X mid (pc + 3) loc (.int v :: st) μ d Q := by
  refine R_pure hf rfl ?_
  cases hq : xKI.lookup ((xm mid).1 * 1000 + i) with
  | none => rw [hq] at hv; cases hv
  | some e => obtain ⟨e1, e2⟩ := e; rw [hq] at hv; cases hv; simp only [xpure, hq]
theorem R_ldc2 {i : Nat} {v : Int64} (hf : (xC mid).lookup pc = some (.ldc2_w i, 3)) (hv : (xKL.lookup ((xm mid).1 * 1000 + i)).map (fun e => e.1) = some v) : X mid pc loc st μ d Q = X mid (pc + 3) loc (.long v :: st) μ d Q := by
  refine R_pure hf rfl ?_
  cases hq : xKL.lookup ((xm mid).1 * 1000 + i) with
  | none => rw [hq] at hv; cases hv
  | some e => obtain ⟨e1, e2⟩ := e; rw [hq] at hv; cases hv; simp only [xpure, hq]
theorem R_iinc {k : Nat} {n : Int} {x v : Int32} {loc' : List Value} (hf : (xC mid).lookup pc = some (.iinc k n, 3)) (hl : loc[k]? = some (.int x)) (hv : x + Int32.ofInt n = v) (hl' : loc.set k (.int v) = loc') : X mid pc loc st μ d Q = X mid (pc + 3) loc' st μ d Q := by
  subst hv; subst hl'
  exact R_pure0 hf (fun _ => by simp only [xpure, hl]; rfl)
theorem R_idiv {x y : Int32} (hf : (xC mid).lookup pc = some (.idiv, 1)) (hne : ¬ y = 0) : X mid pc loc (.int y :: .int x :: st) μ d Q = X mid (pc + 1) loc (.int (x / y) :: st) μ d Q := R_pure0 hf (fun _ => by simp only [xpure, if_neg hne])
theorem R_irem {x y : Int32} (hf : (xC mid).lookup pc = some (.irem, 1)) (hne : ¬ y = 0) : X mid pc loc (.int y :: .int x :: st) μ d Q = X mid (pc + 1) loc (.int (x - x / y * y) :: st) μ d Q := R_pure0 hf (fun _ => by simp only [xpure, if_neg hne])
theorem R_ldiv {x y : Int64} (hf : (xC mid).lookup pc = some (.ldiv, 1)) (hne : ¬ y = 0) : X mid pc loc (.long y :: .long x :: st) μ d Q = X mid (pc + 1) loc (.long (x / y) :: st) μ d Q := R_pure0 hf (fun _ => by simp only [xpure, if_neg hne])
theorem R_lrem {x y : Int64} (hf : (xC mid).lookup pc = some (.lrem, 1)) (hne : ¬ y = 0) : X mid pc loc (.long y :: .long x :: st) μ d Q = X mid (pc + 1) loc (.long (x - x / y * y) :: st) μ d Q := R_pure0 hf (fun _ => by simp only [xpure, if_neg hne])
end WORDS
def isStrip (L a n : Nat) : Prop := (SH L)[a]? = some (8, 2) ∧ MR a 0 = some (a + 1) ∧ (SH L)[a + 1]? = some (100, n)
def isShelf (L a n : Nat) : Prop := (SH L)[a]? = some (7, 1) ∧ MR a 0 = some (a + 1) ∧ (SH L)[a + 1]? = some (103, n)
theorem xin_of {i : Int32} {n : Nat} (h1 : ¬ i < 0) (h2 : i < Int32.ofNat n) (hn : n < 2 ^ 31) : xin i n = true := by
  have h3 : i.toInt < n := by
    have := Int32.lt_iff_toInt_lt.mp h2
    rw [show (Int32.ofNat n).toInt = n from nI_toInt hn] at this
    exact this
  have h4 : 0 ≤ i.toInt := by
    have := mt Int32.lt_iff_toInt_lt.mpr h1
    simp at this
    exact this
  simp only [xin, Bool.not_eq_true', Bool.or_eq_false_iff, decide_eq_false_iff_not]
  refine ⟨h1, ?_⟩
  have : i.toNatClampNeg = i.toInt.toNat := rfl
  omega
