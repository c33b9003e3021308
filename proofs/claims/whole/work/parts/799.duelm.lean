/-! duel: the model, the call -/
def bestA (acc : Nat) (B : Option Nat) : Int32 := match B with
  | none => -9
  | some v => nI (acc + v)
theorem c188s {L : Nat} {mi : Nat → Nat → Int32} {ml : Nat → Nat → Int64} {d : Nat} {Q : Option Value → xM → Prop} {r0 n0 a b n : Nat} (h0 : (SH L)[r0]? = some (100, n0)) (hab : a + n ≤ b) (hb : b + n ≤ n0) (hn0 : n0 < 10000) : Xm 188 [.ref r0, .int (nI a), .ref r0, .int (nI b), .int (nI n)] (SH L, mi, ml, MR) d Q = Q none (SH L, xcpy mi r0 a r0 b n, ml, MR) := by
  rw [s188 h0 h0]
  have hl := X_loop (mid := 188) (pc := 3) (d := d) (Q := Q) (fun k => [.ref r0, .int (nI a), .ref r0, .int (nI b), .int (nI n), .int (nI k)]) (fun k => (SH L, xcpy mi r0 a r0 b k, ml, MR)) n (fun k hk => by
    have key : xw (xcpy mi r0 a r0 b k) r0 (b + k) (xcpy mi r0 a r0 b k r0 (a + k)) = xcpy mi r0 a r0 b (k + 1) := by
      funext c q
      simp only [xw, xcpy]
      rw [if_neg (show ¬ (True ∧ b ≤ a + k ∧ a + k < b + k) from fun z => by omega)]
      by_cases z1 : c = r0
      · by_cases z2 : q = b + k
        · rw [if_pos ⟨z1, z2⟩, if_pos ⟨z1, by omega, by omega⟩]
          congr 1
          omega
        · rw [if_neg (fun z => z2 z.2)]
          by_cases z3 : b ≤ q ∧ q < b + k
          · rw [if_pos ⟨z1, z3⟩, if_pos ⟨z1, by omega, by omega⟩]
          · rw [if_neg (fun z => z3 z.2), if_neg (fun z => z3 (by omega))]
      · rw [if_neg (fun z => z1 z.1), if_neg (fun z => z1 z.1), if_neg (fun z => z1 z.1)]
    rw [s188_3 h0 h0 (fun _ => by rw [nI_add]; exact xin_nI (by omega) (by omega)) (fun _ => by rw [nI_add]; exact xin_nI (by omega) (by omega)), if_pos (nI_lt hk (by omega)), nI_add, nI_add, nI_clamp (by omega), nI_clamp (by omega), nI_1, key])
  have e0 : xcpy mi r0 a r0 b 0 = mi := by
    funext c q
    simp only [xcpy]
    rw [if_neg (by omega)]
  rw [e0] at hl
  refine hl.trans ?_
  rw [s188_3 h0 h0 (fun z => absurd z (nI_nlt (by omega) (by omega))) (fun z => absurd z (nI_nlt (by omega) (by omega))), if_neg (nI_nlt (by omega) (by omega))]
/-- a level of the stack -/
def lvR (mi : Nat → Nat → Int32) (k : Nat) (nx : Nat → Nat) (acc : Nat) : Prop := (∀ j, j < 6 → mi 87 (7 * k + j) = nI (nx j)) ∧ mi 87 (7 * k + 6) = nI acc
def sameB (mi mi' : Nat → Nat → Int32) (k : Nat) : Prop := ∀ a j, (a = 87 → j < 7 * k) → (a = 88 → j < k) → (a = 89 → j < k) → mi' a j = mi a j
section DUELM
variable {P : pP} {g : pG} {L : Nat} {mi : Nat → Nat → Int32} {ml : Nat → Nat → Int64} {d : Nat} {Q : Option Value → xM → Prop}
/-- what a level does at its end -/
def finD (L : Nat) (ml : Nat → Nat → Int64) (d : Nat) (Q : Option Value → xM → Prop) (n k : Nat) (v : Int32) (mi : Nat → Nat → Int32) : Prop := if k = 0 then Q (some (.int v)) (SH L, mi, ml, MR) else ∀ x3 x4 : Int32, Xm 222 [.ref 68, .int (nI (k - 1)), .int v] (SH L, mi, ml, MR) (d + 3) (fun w μ' => X 223 146 [.ref 68, .int (nI n), .int (nI (k - 1)), .int x3, .int x4] (w.toList ++ []) μ' (d + 4) Q)
theorem dec_I {k : Nat} (hk : 0 < k) : nI k + (-1) = nI (k - 1) := by
  rw [show nI k + (-1) = nI k - 1 from (Int32.sub_eq_add_neg _ _).symm]
  exact nI_sub (b := 1) (by omega)
theorem c223_65 {n k i : Nat} {nx : Nat → Nat} {acc : Nat} {B : Option Nat} {u3 u4 : Value} (hP : P.length ≤ 6) (hk : k ≤ n) (hn : n ≤ 5) (hi : i ≤ P.length) (hacc : acc ≤ 100) (hB : ∀ w, B = some w → w ≤ 100) (h4 : mi 68 4 = nI P.length) (h88 : mi 88 k = nI i - 1) (h89 : mi 89 k = bestA acc B) (hlv : lvR mi k nx acc) (q1 : (k = n ∨ i = P.length) → finD L ml d Q n k (nI (acc + B.getD 0)) (xw mi 88 k (nI i))) (q2 : k < n → i < P.length → Xm 182 [.ref 68, .int (nI i), .int (nI (nx i))] (SH L, xw mi 88 k (nI i), ml, MR) (d + 3) (fun v μ' => X 223 165 [.ref 68, .int (nI n), .int (nI k), .int (nI i), u4] (v.toList ++ []) μ' (d + 4) Q)) : X 223 65 [.ref 68, .int (nI n), .int (nI k), u3, u4] [] (SH L, mi, ml, MR) (d + 4) Q := by
  have hx : xin (nI k) 6 = true := xin_nI (by omega) (by omega)
  have ck : (nI k).toNatClampNeg = k := nI_clamp (by omega)
  have ei : nI i - 1 + 1 = nI i := by
    rw [show nI i - 1 = nI i + (-1) from Int32.sub_eq_add_neg _ _, Int32.add_assoc]
    show nI i + (-1 + 1) = nI i
    rw [show (-1 + 1 : Int32) = 0 from rfl]
    exact nI_add i 0
  have e7 : (7 : Int32) * nI k = nI (7 * k) := nI_mul 7 k
  have e76 : (7 : Int32) * nI k + 6 = nI (7 * k + 6) := by rw [e7]; exact nI_add _ 6
  have e7i : (7 : Int32) * nI k + nI i = nI (7 * k + i) := by rw [e7, nI_add]
  have x76 : xin ((7 : Int32) * nI k + 6) 42 = true := by rw [e76]; exact xin_nI (by omega) (by omega)
  have r88 : xw mi 88 (nI k).toNatClampNeg (mi 88 (nI k).toNatClampNeg + 1) = xw mi 88 k (nI i) := by rw [ck, h88, ei]
  have r1 : xw mi 88 k (nI i) 88 k = nI i := by rw [xw_eq, if_pos rfl]
  have r2 : xw mi 88 k (nI i) 89 k = bestA acc B := by rw [xw_ne (by omega)]; exact h89
  have r3 : xw mi 88 k (nI i) 68 4 = nI P.length := by rw [xw_ne (by omega)]; exact h4
  have r4 : xw mi 88 k (nI i) 87 (7 * k + 6) = nI acc := by rw [xw_ne (by omega)]; exact hlv.2
  rw [s223_65g hx hx hx (fun _ => hx) (fun _ _ => x76) (fun _ _ => hx) (fun _ z => by
    rw [r88, ck, r1, r3] at z
    have := (nI_ltI (by omega) (by omega)).mp z
    rw [r88, ck, r1, e7i]
    exact xin_nI (by omega) (by omega)) (fun _ _ => hx) (fun _ _ _ => x76) (fun _ _ _ => hx), r88, ck, r1, r2, r3, e76, nI_clamp (by omega), r4]
  have fin : (k = n ∨ i = P.length) → (if bestA acc B = -9 then (if nI k = 0 then Q (some (.int (nI acc))) (SH L, xw mi 88 k (nI i), ml, MR) else Xm 222 [.ref 68, .int (nI k + (-1)), .int (nI acc)] (SH L, xw mi 88 k (nI i), ml, MR) (d + 3) (fun v μ' => X 223 146 [.ref 68, .int (nI n), .int (nI k + (-1)), .int (nI i), .int (nI acc)] (v.toList ++ []) μ' (d + 4) Q)) else (if nI k = 0 then Q (some (.int (bestA acc B))) (SH L, xw mi 88 k (nI i), ml, MR) else Xm 222 [.ref 68, .int (nI k + (-1)), .int (bestA acc B)] (SH L, xw mi 88 k (nI i), ml, MR) (d + 3) (fun v μ' => X 223 146 [.ref 68, .int (nI n), .int (nI k + (-1)), .int (nI i), .int (bestA acc B)] (v.toList ++ []) μ' (d + 4) Q))) := fun hc => by
    have hq := q1 hc
    unfold finD at hq
    cases B with
    | none =>
      rw [if_pos (show bestA acc none = -9 from rfl)]
      by_cases hk0 : k = 0
      · rw [if_pos hk0] at hq
        rw [if_pos (show nI k = 0 by rw [hk0]; rfl)]
        exact hq
      · rw [if_neg hk0] at hq
        rw [if_neg (nI_ne0 (by omega) (by omega)), dec_I (by omega)]
        exact hq _ _
    | some w =>
      have hw := hB w rfl
      have hne : ¬ bestA acc (some w) = -9 := fun z => nI_nneg (k := acc + w) (by omega) (by rw [show nI (acc + w) = -9 from z]; decide)
      rw [if_neg hne]
      by_cases hk0 : k = 0
      · rw [if_pos hk0] at hq
        rw [if_pos (show nI k = 0 by rw [hk0]; rfl)]
        exact hq
      · rw [if_neg hk0] at hq
        rw [if_neg (nI_ne0 (by omega) (by omega)), dec_I (by omega)]
        exact hq _ _
  by_cases hkn : k = n
  · rw [if_pos (show nI k = nI n by rw [hkn])]
    exact fin (Or.inl hkn)
  · rw [if_neg (fun z => hkn (nI_inj (by omega) (by omega) z))]
    by_cases hiP : i = P.length
    · rw [if_neg (show ¬ nI i < nI P.length from nI_nlt (by omega) (by omega))]
      exact fin (Or.inr hiP)
    · rw [if_pos (nI_lt (by omega) (by omega)), e7i, nI_clamp (by omega), xw_ne (by omega), hlv.1 i (by omega)]
      exact q2 (by omega) (by omega)
end DUELM
