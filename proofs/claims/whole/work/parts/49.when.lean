/-! the first day on which a pod may be picked -/
def dayN (p : Nat × Nat × Nat × Nat) (w pod : Nat) (e : Bool) (day : Nat) : Nat → Nat → Option Nat
  | 0, _ => none
  | n + 1, s => if mayP p w pod e (day + s) then some s else dayN p w pod e day n (s + 1)
def dayI (x : Option Nat) : Int32 := match x with
  | none => -9
  | some s => nI s
def dayM (x : Option Nat) : Int32 := match x with
  | none => 1000000
  | some s => nI s
theorem dayN_le {p : Nat × Nat × Nat × Nat} {w pod : Nat} {e : Bool} {day : Nat} : ∀ n s r, dayN p w pod e day n s = some r → s ≤ r ∧ r < s + n := by
  intro n
  induction n with
  | zero => intro s r h; cases h
  | succ n ih =>
    intro s r h
    unfold dayN at h
    split at h
    · cases h; omega
    · have := ih _ _ h; omega
section WHEN
variable {L : Nat} {mi : Nat → Nat → Int32} {ml : Nat → Nat → Int64} {d : Nat} {Q : Option Value → xM → Prop} {a i : Nat} {p : Nat × Nat × Nat × Nat} {w0 w q day pod lim : Nat} {e : Bool}
theorem c59_loop (hS : (SH L)[a]? = some (4, 7)) (h : plR mi a p w0 q e) (hp : okp p) (hd : day < 100) (hw : w < 100) (hl : lim < 200) (hpod : pod < 9) : ∀ n s v, s + n = lim + 1 → (v = xmk ∨ ∃ z, v = .int z) → X 59 3 [.ref a, .int (nI pod), .int (nI w), .int (nI day), .int (nI lim), .int (nI s), v] [] (SH L, mi, ml, MR) (d + 3) Q = Q (some (.int (dayI (dayN p w pod e day n s)))) (SH L, mi, ml, MR) := by
  have k2 := hp.2.1
  have k3 := hp.2.2.1
  have k4 := hp.2.2.2.1
  intro n
  induction n with
  | zero =>
    intro s v hs hv
    have hx : (if mi a 6 = 0 then (if nI lim < nI s then Q (some (.int (-9))) (SH L, mi, ml, MR) else Xm 55 [.ref a, .int (nI day + nI s)] (SH L, mi, ml, MR) (d + 2) (fun v μ' => X 59 42 [.ref a, .int (nI pod), .int (nI w), .int (nI day), .int (nI lim), .int (nI s), .int (if 0 < (((nI day + nI s) + nI w) - (mi a 1)) then (((nI day + nI s) + nI w) - (mi a 1)) else 0)] (v.toList ++ []) μ' (d + 3) Q)) else Q (some (.int (-9))) (SH L, mi, ml, MR)) = Q (some (.int (-9))) (SH L, mi, ml, MR) := by
      rw [if_pos (nI_lt (a := lim) (b := s) (by omega) (by omega)), ite_self]
    rcases hv with rfl | ⟨z, rfl⟩
    · rw [s59_3 hS]; exact hx
    · rw [s59_3v2 hS]; exact hx
  | succ n ih =>
    intro s v hs hv
    have hx : (if mi a 6 = 0 then (if nI lim < nI s then Q (some (.int (-9))) (SH L, mi, ml, MR) else Xm 55 [.ref a, .int (nI day + nI s)] (SH L, mi, ml, MR) (d + 2) (fun v μ' => X 59 42 [.ref a, .int (nI pod), .int (nI w), .int (nI day), .int (nI lim), .int (nI s), .int (if 0 < (((nI day + nI s) + nI w) - (mi a 1)) then (((nI day + nI s) + nI w) - (mi a 1)) else 0)] (v.toList ++ []) μ' (d + 3) Q)) else Q (some (.int (-9))) (SH L, mi, ml, MR)) = Q (some (.int (dayI (dayN p w pod e day (n + 1) s)))) (SH L, mi, ml, MR) := by
      rw [h.2.2.2.2.2.2]
      by_cases he : e = true
      · rw [bI_t he, if_neg i1_ne0]
        have : ∀ n s, dayN p w pod e day n s = none := by
          intro n
          induction n with
          | zero => intro s; rfl
          | succ n ih => intro s; unfold dayN; rw [if_neg (fun z => by have z1 := z.1; rw [he] at z1; exact Bool.noConfusion z1)]; exact ih _
        rw [this]
        rfl
      · rw [bI_f he, if_pos rfl, if_neg (nI_nlt (by omega) (by omega)), nI_add, c55 hS h hp (by omega), ret1, s59_42 hS, h.1, h.2.1, h.2.2.1, nI_add, nI_tsub (by omega) (by omega), c47 hp.1 (by omega) (by omega) (by omega), ret1, s59_58 hS, nI_1]
        unfold dayN
        have hr : ripeN p.1 (day + s + w - p.2.1) p.2.2.1 ≤ 9 := ripeN_le _ _ _
        by_cases h3 : p.1 = 3 ∧ (day + s) % 2 = 1
        · rw [bI_f (fun z => z h3), if_pos rfl, if_neg (fun z => z.2.1 h3)]
          exact ih (s + 1) _ (by omega) (Or.inr ⟨_, rfl⟩)
        · rw [bI_t h3, if_neg i1_ne0]
          by_cases hq : pod < ripeN p.1 (day + s + w - p.2.1) p.2.2.1
          · rw [if_pos (nI_lt hq (by omega)), if_pos ⟨Bool.eq_false_iff.mpr he, h3, hq⟩]
            rfl
          · rw [if_neg (nI_nlt (by omega) (by omega)), if_neg (fun z => hq z.2.2)]
            exact ih (s + 1) _ (by omega) (Or.inr ⟨_, rfl⟩)
    rcases hv with rfl | ⟨z, rfl⟩
    · rw [s59_3 hS]; exact hx
    · rw [s59_3v2 hS]; exact hx
theorem c59 (hS : (SH L)[a]? = some (4, 7)) (h : plR mi a p w0 q e) (hp : okp p) (hd : day < 100) (hw : w < 100) (hl : lim < 200) (hpod : pod < 9) : Xm 59 [.ref a, .int (nI pod), .int (nI w), .int (nI day), .int (nI lim)] (SH L, mi, ml, MR) (d + 3) Q = Q (some (.int (dayI (dayN p w pod e day (lim + 1) 0)))) (SH L, mi, ml, MR) := by
  rw [s59 hS]
  exact c59_loop hS h hp hd hw hl hpod (lim + 1) 0 xmk (by omega) (Or.inl rfl)
theorem c203_loop {g : pG} (hi : i < 6) (hg : mgR mi g) (h : mpR mi i p) (hp : okp p) (hd : gD g < 100) (hw : w < 100) (hl : lim < 200) (hpod : pod < 9) : ∀ n s, s + n = lim + 1 → X 203 4 [.ref 68, .int (nI i), .int (nI pod), .int (nI w), .int (nI 0), .int (nI lim), .int (nI s)] [] (SH L, mi, ml, MR) (d + 3) Q = Q (some (.int (dayM (dayN p w pod (gE g i) (gD g) n s)))) (SH L, mi, ml, MR) := by
  intro n
  induction n with
  | zero =>
    intro s hs
    rw [s203_4, if_pos (nI_lt (by omega) (by omega))]
    rfl
  | succ n ih =>
    intro s hs
    rw [s203_4, if_neg (nI_nlt (by omega) (by omega)), mg_d hg, nI_add, c181 hi hg h hp (by omega) hw (by omega), ret1, s203_28, nI_1]
    unfold dayN
    by_cases hm : mayP p w pod (gE g i) (gD g + s)
    · rw [bI_t hm, if_neg i1_ne0, if_pos hm]
      rfl
    · rw [bI_f hm, if_pos rfl, if_neg hm]
      exact ih (s + 1) (by omega)
end WHEN
