/-! sooner -/
def soonN (p : Nat × Nat × Nat × Nat) (w pod : Nat) (e : Bool) (day lim : Nat) : Nat → Nat → Int32
  | 0, _ => -9
  | n + 1, x => if (dayN p x pod e day (lim + 1) 0).isSome = true then nI (x - w) else soonN p w pod e day lim n (x + 1)
section SOONER
variable {L : Nat} {mi : Nat → Nat → Int32} {ml : Nat → Nat → Int64} {d : Nat} {Q : Option Value → xM → Prop} {a i : Nat} {p : Nat × Nat × Nat × Nat} {w q day pod lim : Nat} {e : Bool}
theorem c121_loop {x1 : Int32} (hS : (SH L)[a]? = some (4, 7)) (h : plR mi a p w q e) (hp : okp p) (h38 : mi 38 3 = nI day) (hd : day < 100) (hw : w < 100) (hl : lim < 200) (hpod : pod < 9) : ∀ n x, n = 10 - x → w ≤ x → x < 100 → X 121 41 [.ref 2, .int x1, .int (nI pod), .int (nI lim), .ref a, .int (nI x)] [] (SH L, mi, ml, MR) (d + 4) Q = Q (some (.int (soonN p w pod e day lim n x))) (SH L, mi, ml, MR) := by
  intro n
  induction n with
  | zero =>
    intro x hx hwx hx2
    rw [s121_41 hS, if_pos (show (9 : Int32) < nI x from nI_lt (a := 9) (by omega) (by omega))]
    rfl
  | succ n ih =>
    intro x hx hwx hx2
    rw [s121_41 hS, if_neg (show ¬ (9 : Int32) < nI x from nI_nlt (a := 9) (by omega) (by omega)), s18, h38, ret1, s121_60 hS, c59 hS h hp hd (by omega) hl hpod, ret1, s121_64 hS, nI_1, h.2.2.2.2.1, nI_sub (by omega)]
    unfold soonN
    cases hx : dayN p x pod e day (lim + 1) 0 with
    | none =>
      rw [if_pos (show dayI none = -9 from rfl), if_neg (by simp)]
      exact ih (x + 1) (by omega) (by omega) (by omega)
    | some s =>
      have hs := dayN_le _ _ _ hx
      rw [if_neg (show ¬ dayI (some s) = -9 from fun z => by
        have z : nI s = -9 := z
        exact nI_nneg (k := s) (by omega) (by rw [z]; decide)), if_pos (show (some s).isSome = true from rfl)]
theorem c205_loop {g : pG} (hi : i < 6) (hg : mgR mi g) (h : mpR mi i p) (hp : okp p) (hd : gD g < 100) (hw : gW g i < 100) (hl : lim < 200) (hpod : pod < 9) : ∀ n x, n = 10 - x → gW g i ≤ x → x < 100 → X 205 32 [.ref 68, .int (nI i), .int (nI pod), .int (nI lim), .int (nI (x - gW g i))] [] (SH L, mi, ml, MR) (d + 4) Q = Q (some (.int (soonN p (gW g i) pod (gE g i) (gD g) lim n x))) (SH L, mi, ml, MR) := by
  intro n
  induction n with
  | zero =>
    intro x hx hwx hx2
    rw [s205_32 (xin_w hi) (fun _ => xin_w hi), mg_w hg hi, nI_add, if_neg (show ¬ nI _ < 10 from nI_nlt (b := 10) (by omega) (by omega))]
    rfl
  | succ n ih =>
    intro x hx hwx hx2
    rw [s205_32 (xin_w hi) (fun _ => xin_w hi), mg_w hg hi, nI_add, if_pos (show nI _ < 10 from nI_lt (b := 10) (by omega) (by omega)), show gW g i + (x - gW g i) = x by omega, s203]
    refine (c203_loop hi hg h hp hd (by omega) hl hpod (lim + 1) 0 (by omega)).trans ?_
    rw [ret1, s205_67, nI_1]
    unfold soonN
    cases hx : dayN p x pod (gE g i) (gD g) (lim + 1) 0 with
    | none =>
      rw [if_neg (show ¬ dayM none < 1000000 by decide), if_neg (by simp), show x - gW g i + 1 = x + 1 - gW g i by omega]
      exact ih (x + 1) (by omega) (by omega) (by omega)
    | some s =>
      have hs := dayN_le _ _ _ hx
      rw [if_pos (show dayM (some s) < 1000000 from nI_lt (b := 1000000) (by omega) (by omega)), if_pos (show (some s).isSome = true from rfl)]
end SOONER
