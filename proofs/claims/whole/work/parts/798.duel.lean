/-! duel: the class -/
def updB (b : Bool) (B : Option Nat) (v : Nat) : Option Nat := match B with
  | none => some v
  | some w => if b = true then (if w < v then some v else some w) else (if v < w then some v else some w)
def pv (P : pP) (g : pG) : Nat → Bool → (Nat → Nat) → Nat
  | 0, _, _ => 0
  | t + 1, b, nx => (itN (fun i B => if mayX P g nx i then updB b B (wordP (pl P i) (nx i) + pv P g t (!b) (up nx i (nx i + 1))) else B) 6 none).getD 0
def bestI (B : Option Nat) : Int32 := match B with
  | none => -9
  | some v => nI v
theorem updB_le {b : Bool} {B : Option Nat} {v m : Nat} (hB : ∀ w, B = some w → w ≤ m) (hv : v ≤ m) : ∀ w, updB b B v = some w → w ≤ m := by
  intro w h
  cases B with
  | none => cases h; exact hv
  | some x =>
    have hx := hB x rfl
    unfold updB at h
    simp only at h
    split at h
    · split at h <;> (cases h; assumption)
    · split at h <;> (cases h; assumption)
theorem itB_le {P : pP} {g : pG} {nx : Nat → Nat} {b : Bool} {F : Nat → Nat} {m : Nat} (hF : ∀ i, mayX P g nx i → F i ≤ m) : ∀ n w, itN (fun i B => if mayX P g nx i then updB b B (F i) else B) n none = some w → w ≤ m := by
  intro n
  induction n with
  | zero => intro w h; cases h
  | succ n ih =>
    intro w h
    have h : (if mayX P g nx n then updB b (itN (fun i B => if mayX P g nx i then updB b B (F i) else B) n none) (F n) else itN (fun i B => if mayX P g nx i then updB b B (F i) else B) n none) = some w := h
    split at h
    · rename_i hm
      exact updB_le ih (hF n hm) w h
    · exact ih w h
theorem pv_le {P : pP} {g : pG} : ∀ t b nx, pv P g t b nx ≤ 9 * t := by
  intro t
  induction t with
  | zero => intro b nx; exact Nat.le_refl _
  | succ t ih =>
    intro b nx
    unfold pv
    cases h : itN (fun i B => if mayX P g nx i then updB b B (wordP (pl P i) (nx i) + pv P g t (!b) (up nx i (nx i + 1))) else B) 6 none with
    | none => exact Nat.zero_le _
    | some w =>
      exact itB_le (F := fun i => wordP (pl P i) (nx i) + pv P g t (!b) (up nx i (nx i + 1))) (m := 9 * (t + 1)) (fun i _ => by
        have h1 := wordP_lt (pl P i) (nx i)
        have h2 := ih (!b) (up nx i (nx i + 1))
        show wordP (pl P i) (nx i) + pv P g t (!b) (up nx i (nx i + 1)) ≤ _
        omega) 6 w h
section DUEL
variable {P : pP} {g : pG} {L : Nat} {mi : Nat → Nat → Int32} {ml : Nat → Nat → Int64} {d : Nat} {Q : Option Value → xM → Prop} {nx : Nat → Nat} {i : Nat}
theorem c37h (hi : i < 6) (hm : mayX P g nx i) : Xm 37 [.ref 48, .int (nI i)] (SH L, hvW mi (opX P g nx) nx 6, ml, MR) d Q = Q none (SH L, hvW mi (opX P g (up nx i (nx i + 1))) (up nx i (nx i + 1)) 6, ml, MR) := by
  have hx : xin (nI i) 6 = true := xin_nI hi (by omega)
  have hop := opX_pos.mpr hm
  rw [s37 (fun _ _ => hx) (fun _ _ => hx) (fun _ _ => hx) (fun _ _ => hx), if_neg (nI_nneg (by omega)), if_pos (show nI i < 6 from nI_lt (b := 6) hi (by omega)), nI_clamp (by omega), hvW_49 hi, show nI (opX P g nx i) - 1 = nI (opX P g nx i - 1) from nI_sub (b := 1) (by omega), xw_ne (by omega), hvW_50 hi, nI_1, hvW_up hi, opX_take]
theorem c38h (hi : i < 6) (hm : mayX P g nx i) : Xm 38 [.ref 48, .int (nI i)] (SH L, hvW mi (opX P g (up nx i (nx i + 1))) (up nx i (nx i + 1)) 6, ml, MR) d Q = Q none (SH L, hvW mi (opX P g nx) nx 6, ml, MR) := by
  have hx : xin (nI i) 6 = true := xin_nI hi (by omega)
  have hop := opX_pos.mpr hm
  have e1 : up nx i (nx i + 1) i = nx i + 1 := by unfold up; rw [if_pos rfl]
  have e2 : up (opX P g nx) i (opX P g nx i - 1) i = opX P g nx i - 1 := by unfold up; rw [if_pos rfl]
  rw [s38 (fun _ _ => hx) (fun _ _ => hx) (fun _ _ => hx) (fun _ _ => hx), if_neg (nI_nneg (by omega)), if_pos (show nI i < 6 from nI_lt (b := 6) hi (by omega)), nI_clamp (by omega), hvW_49 hi, opX_take, e2, nI_1, show opX P g nx i - 1 + 1 = opX P g nx i by omega, xw_ne (by omega), hvW_50 hi, e1, show nI (nx i + 1) - 1 = nI (nx i) from nI_sub (a := nx i + 1) (b := 1) (by omega), hvW_up hi, up_up, up_up, up_id, up_id]
theorem bestI_none {B : Option Nat} (h : ∀ w, B = some w → w ≤ 100) : bestI B = -9 ↔ B = none := by
  cases B with
  | none => exact ⟨fun _ => rfl, fun _ => rfl⟩
  | some w => exact ⟨fun z => absurd z (dayI_ne (h w rfl)), fun z => by cases z⟩
theorem c43 (hok : okP P) (h2 : mi 38 2 = nI P.length) (hpl : ∀ i, i < P.length → plR mi (42 + i) (pl P i) (gW g i) (gP g i) (gE g i)) : ∀ t b nx d D, D = d + t + 3 → t ≤ 5 → ∀ Q, Xm 43 [.ref 48, .int (nI t), .int (bI (b = true))] (SH L, hvW mi (opX P g nx) nx 6, ml, MR) D Q = Q (some (.int (nI (pv P g t b nx)))) (SH L, hvW mi (opX P g nx) nx 6, ml, MR) := by
  have hP := hok.1
  have hpl' : ∀ (nx : Nat → Nat) (i : Nat), i < P.length → plR (hvW mi (opX P g nx) nx 6) (42 + i) (pl P i) (gW g i) (gP g i) (gE g i) := fun nx i hi => by
    have := hpl i hi
    unfold plR at this ⊢
    simp only [hvW_ne (show 42 + i ≠ 49 by omega) (show 42 + i ≠ 50 by omega)]
    exact this
  intro t
  induction t with
  | zero =>
    intro b nx d D hD ht Q
    subst hD
    rw [s43, s43_6g, if_pos (by decide), if_neg (by decide), if_pos rfl]
    rfl
  | succ t ih =>
    intro b nx d D hD ht Q
    subst hD
    rw [s43]
    have main : ∀ m i u5, i + m = 6 → X 43 6 [.ref 48, .int (nI (t + 1)), .int (bI (b = true)), .int (bestI (itN (fun i B => if mayX P g nx i then updB b B (wordP (pl P i) (nx i) + pv P g t (!b) (up nx i (nx i + 1))) else B) i none)), .int (nI i), u5] [] (SH L, hvW mi (opX P g nx) nx 6, ml, MR) (d + (t + 1) + 3) Q = Q (some (.int (nI (pv P g (t + 1) b nx)))) (SH L, hvW mi (opX P g nx) nx 6, ml, MR) := by
      intro m
      induction m with
      | zero =>
        intro i u5 hi
        have hle := itB_le (P := P) (g := g) (nx := nx) (b := b) (F := fun i => wordP (pl P i) (nx i) + pv P g t (!b) (up nx i (nx i + 1))) (m := 100) (fun i _ => by
          have h1 := wordP_lt (pl P i) (nx i)
          have h2 := pv_le (P := P) (g := g) t (!b) (up nx i (nx i + 1))
          show wordP (pl P i) (nx i) + pv P g t (!b) (up nx i (nx i + 1)) ≤ _
          omega) 6
        rw [s43_6g, if_neg (show ¬ nI i < 6 from nI_nlt (b := 6) (by omega) (by omega)), show i = 6 by omega]
        show (if bestI _ = -9 then _ else _) = Q (some (.int (nI ((itN (fun i B => if mayX P g nx i then updB b B (wordP (pl P i) (nx i) + pv P g t (!b) (up nx i (nx i + 1))) else B) 6 none).getD 0)))) _
        generalize itN (fun i B => if mayX P g nx i then updB b B (wordP (pl P i) (nx i) + pv P g t (!b) (up nx i (nx i + 1))) else B) 6 none = B at hle
        cases B with
        | none => rw [if_pos (show bestI none = -9 from rfl)]; rfl
        | some w => rw [if_neg (show ¬ bestI (some w) = -9 from dayI_ne (hle w rfl))]; rfl
      | succ m ihm =>
        intro i u5 hi
        have hle := itB_le (P := P) (g := g) (nx := nx) (b := b) (F := fun i => wordP (pl P i) (nx i) + pv P g t (!b) (up nx i (nx i + 1))) (m := 100) (fun i _ => by
          have h1 := wordP_lt (pl P i) (nx i)
          have h2 := pv_le (P := P) (g := g) t (!b) (up nx i (nx i + 1))
          show wordP (pl P i) (nx i) + pv P g t (!b) (up nx i (nx i + 1)) ≤ _
          omega) i
        have ihn := ihm (i + 1)
        have enx : itN (fun i B => if mayX P g nx i then updB b B (wordP (pl P i) (nx i) + pv P g t (!b) (up nx i (nx i + 1))) else B) (i + 1) none = if mayX P g nx i then updB b (itN (fun i B => if mayX P g nx i then updB b B (wordP (pl P i) (nx i) + pv P g t (!b) (up nx i (nx i + 1))) else B) i none) (wordP (pl P i) (nx i) + pv P g t (!b) (up nx i (nx i + 1))) else itN (fun i B => if mayX P g nx i then updB b B (wordP (pl P i) (nx i) + pv P g t (!b) (up nx i (nx i + 1))) else B) i none := rfl
        rw [enx] at ihn
        generalize itN (fun i B => if mayX P g nx i then updB b B (wordP (pl P i) (nx i) + pv P g t (!b) (up nx i (nx i + 1))) else B) i none = B at hle ihn
        rw [s43_6g, if_pos (show nI i < 6 from nI_lt (b := 6) (by omega) (by omega)), if_pos ((nI_pos_iff (by omega)).mpr (by omega)), c35 hvW_R (by omega), ret1, s43_23g]
        by_cases hm : mayX P g nx i
        · rw [if_pos hm] at ihn
          have hn9 := mayX_lt hm
          have hwl := wordP_lt (pl P i) (nx i)
          have hpv := pv_le (P := P) (g := g) t (!b) (up nx i (nx i + 1))
          rw [bI_t hm, if_neg i1_ne0]
          refine (c36 (d := d + (t + 1)) hok (by rw [hvW_ne (by omega) (by omega)]; exact h2) (hpl' nx i hm.1) hvW_R hm.1 (by omega)).trans ?_
          rw [ret1, s43_35g, c37h (by omega) hm, ret0, s43_43, show nI (t + 1) - 1 = nI t from nI_sub (a := t + 1) (b := 1) (by omega)]
          have hih := fun Q => ih (!b) (up nx i (nx i + 1)) d (d + (t + 1) + 2) (by omega) (by omega) Q
          have key : ∀ z : Int32, z = bI (b = true) → X 43 61 [.ref 48, .int (nI (t + 1)), .int z, .int (bestI B), .int (nI i), .int (nI (wordP (pl P i) (nx i)))] [.int (nI (pv P g t (!b) (up nx i (nx i + 1)))), .int (nI (wordP (pl P i) (nx i)))] (SH L, hvW mi (opX P g (up nx i (nx i + 1))) (up nx i (nx i + 1)) 6, ml, MR) (d + (t + 1) + 3) Q = Q (some (.int (nI (pv P g (t + 1) b nx)))) (SH L, hvW mi (opX P g nx) nx 6, ml, MR) := fun z hz => by
            rw [s43_61, c38h (by omega) hm, ret0, s43_70, nI_add, nI_1, hz]
            have hv : wordP (pl P i) (nx i) + pv P g t (!b) (up nx i (nx i + 1)) ≤ 100 := by omega
            generalize wordP (pl P i) (nx i) + pv P g t (!b) (up nx i (nx i + 1)) = v at hv ihn
            have ihn := fun u => ihn u (by omega)
            cases B with
            | none =>
              rw [if_pos (show bestI none = -9 from rfl)]
              exact ihn _
            | some w =>
              have hw := hle w rfl
              rw [if_neg (show ¬ bestI (some w) = -9 from dayI_ne hw)]
              cases b with
              | true =>
                rw [if_neg (show ¬ bI (true = true) = 0 by decide)]
                by_cases hc : w < v
                · have e : updB true (some w) v = some v := by
                    show (if true = true then (if w < v then some v else some w) else (if v < w then some v else some w)) = _
                    rw [if_pos rfl, if_pos hc]
                  rw [e] at ihn
                  rw [if_pos (show bestI (some w) < nI v from nI_lt hc (by omega))]
                  exact ihn _
                · have e : updB true (some w) v = some w := by
                    show (if true = true then (if w < v then some v else some w) else (if v < w then some v else some w)) = _
                    rw [if_pos rfl, if_neg hc]
                  rw [e] at ihn
                  rw [if_neg (show ¬ bestI (some w) < nI v from nI_nlt (by omega) (by omega))]
                  exact ihn _
              | false =>
                rw [if_pos (show bI (false = true) = 0 by decide)]
                by_cases hc : v < w
                · have e : updB false (some w) v = some v := by
                    show (if false = true then (if w < v then some v else some w) else (if v < w then some v else some w)) = _
                    rw [if_neg (by decide), if_pos hc]
                  rw [e] at ihn
                  rw [if_pos (show nI v < bestI (some w) from nI_lt hc (by omega))]
                  exact ihn _
                · have e : updB false (some w) v = some w := by
                    show (if false = true then (if w < v then some v else some w) else (if v < w then some v else some w)) = _
                    rw [if_neg (by decide), if_neg hc]
                  rw [e] at ihn
                  rw [if_neg (show ¬ nI v < bestI (some w) from nI_nlt (by omega) (by omega))]
                  exact ihn _
          cases b with
          | true =>
            rw [if_neg (show ¬ bI (true = true) = 0 by decide)]
            refine (hih _).trans ?_
            rw [ret1]
            exact key _ rfl
          | false =>
            rw [if_pos (show bI (false = true) = 0 by decide)]
            refine (hih _).trans ?_
            rw [ret1]
            exact key _ rfl
        · rw [if_neg hm] at ihn
          rw [bI_f hm, if_pos rfl, nI_1]
          exact ihn _ (by omega)
    exact main 6 0 _ (by omega)
end DUEL
