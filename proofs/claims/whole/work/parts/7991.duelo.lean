/-! duel: the stack, the call -/
def stD (P : pP) (g : pG) (mi : Nat → Nat → Int32) : Prop := mi 68 4 = nI P.length ∧ mgR mi g ∧ ∀ i, i < P.length → mpR mi i (pl P i)
theorem stD_same {P : pP} {g : pG} {mi mi' : Nat → Nat → Int32} (h : stD P g mi) (hs : ∀ a j, a ≠ 87 → a ≠ 88 → a ≠ 89 → mi' a j = mi a j) : stD P g mi' := by
  refine ⟨by rw [hs _ _ (by omega) (by omega) (by omega)]; exact h.1, fun k hk => by rw [hs _ _ (by omega) (by omega) (by omega)]; exact h.2.1 k hk, fun i hi => ?_⟩
  have := h.2.2 i hi
  unfold mpR at this ⊢
  rw [hs _ _ (by omega) (by omega) (by omega), hs _ _ (by omega) (by omega) (by omega), hs _ _ (by omega) (by omega) (by omega), hs _ _ (by omega) (by omega) (by omega)]
  exact this
theorem sameB_st {P : pP} {g : pG} {mi mi' : Nat → Nat → Int32} {k : Nat} (h : stD P g mi) (hs : sameB mi mi' k) : stD P g mi' := stD_same h (fun a j h1 h2 h3 => hs a j (fun z => absurd z h1) (fun z => absurd z h2) (fun z => absurd z h3))
def itR {α : Type} (F : Nat → α → α) : Nat → Nat → α → α
  | 0, _, x => x
  | m + 1, i, x => itR F m (i + 1) (F i x)
theorem itR_eq {α : Type} {F : Nat → α → α} : ∀ m i x, itR F m i (itN F i x) = itN F (i + m) x := by
  intro m
  induction m with
  | zero => intro i x; rfl
  | succ m ih =>
    intro i x
    show itR F m (i + 1) (itN F (i + 1) x) = _
    rw [ih, show i + 1 + m = i + (m + 1) by omega]
section NODE
variable {P : pP} {g : pG} {L : Nat} {mi : Nat → Nat → Int32} {ml : Nat → Nat → Int64} {d : Nat} {Q : Option Value → xM → Prop}
theorem c222 {k acc c : Nat} {B : Option Nat} (hk : k < 6) (hacc : acc ≤ 100) (hc : c ≤ 100) (hB : ∀ w, B = some w → w ≤ 100) (h : mi 89 k = bestA acc B) : Xm 222 [.ref 68, .int (nI k), .int (nI (acc + c))] (SH L, mi, ml, MR) d Q = Q none (SH L, xw mi 89 k (bestA acc (updB (decide (k % 2 = 0)) B c)), ml, MR) := by
  have hx : xin (nI k) 6 = true := xin_nI hk (by omega)
  rw [s222 hx (fun _ => hx) (fun _ _ => hx) (fun _ _ _ => hx) (fun _ _ _ => hx) (fun _ _ _ => hx) (fun _ _ => hx) (fun _ _ _ => hx) (fun _ _ _ => hx) (fun _ _ _ => hx), nI_clamp (by omega), h, rem2 (by omega)]
  cases B with
  | none => rw [if_pos (show bestA acc none = -9 from rfl)]; rfl
  | some w =>
    have hw := hB w rfl
    have hne : ¬ bestA acc (some w) = -9 := fun z => nI_nneg (k := acc + w) (by omega) (by rw [show nI (acc + w) = -9 from z]; decide)
    rw [if_neg hne]
    by_cases h2 : k % 2 = 0
    · rw [h2, if_pos (show nI 0 = 0 from rfl), decide_eq_true rfl]
      have e : updB true (some w) c = if w < c then some c else some w := rfl
      rw [e]
      by_cases hc2 : w < c
      · rw [if_pos (show bestA acc (some w) < nI (acc + c) from nI_lt (by omega) (by omega)), if_pos hc2]
        rfl
      · rw [if_neg (show ¬ bestA acc (some w) < nI (acc + c) from nI_nlt (by omega) (by omega)), if_neg hc2]
    · rw [if_neg (show ¬ nI (k % 2) = 0 from nI_ne0 (by omega) (by omega)), decide_eq_false h2]
      have e : updB false (some w) c = if c < w then some c else some w := rfl
      rw [e]
      by_cases hc2 : c < w
      · rw [if_pos (show nI (acc + c) < bestA acc (some w) from nI_lt (by omega) (by omega)), if_pos hc2]
        rfl
      · rw [if_neg (show ¬ nI (acc + c) < bestA acc (some w) from nI_nlt (by omega) (by omega)), if_neg hc2]
theorem c223_node {n : Nat} (hok : okP P) (hn : n ≤ 5) (hd : gD g < 500) (hw : ∀ i, gW g i < 100) : ∀ t k nx acc mi u3 u4, k + t = n → acc + 9 * t ≤ 50 → (∀ j, nx j + t < 100) → stD P g mi → mi 88 k = nI 0 - 1 → mi 89 k = -9 → lvR mi k nx acc → (∀ mi', sameB mi mi' k → finD L ml d Q n k (nI (acc + pv P g t (decide (k % 2 = 0)) nx)) mi') → X 223 65 [.ref 68, .int (nI n), .int (nI k), u3, u4] [] (SH L, mi, ml, MR) (d + 4) Q := by
  have hP := hok.1
  have hsw : ∀ (m : Nat → Nat → Int32) (k : Nat) (v : Int32), sameB m (xw m 88 k v) k := fun m k v a j h1 h2 h3 => by
    unfold xw
    rw [if_neg (fun z => by have := h2 z.1; omega)]
  have hlw : ∀ (m : Nat → Nat → Int32) (k : Nat) (v : Int32) (nx : Nat → Nat) (acc : Nat), lvR m k nx acc → lvR (xw m 88 k v) k nx acc := fun m k v nx acc h => ⟨fun j hj => by rw [xw_ne (by omega)]; exact h.1 j hj, by rw [xw_ne (by omega)]; exact h.2⟩
  intro t
  induction t with
  | zero =>
    intro k nx acc mi u3 u4 hk hacc hnx hst h88 h89 hlv fin
    refine c223_65 (i := 0) (B := none) (acc := acc) hP (by omega) hn (by omega) (by omega) (fun w h => by cases h) hst.1 h88 h89 hlv (fun _ => ?_) (fun h _ => by omega)
    exact fin _ (hsw _ _ _)
  | succ t ih =>
    intro k nx acc mi u3 u4 hk hacc hnx hst h88 h89 hlv fin
    have hFb : ∀ i, wordP (pl P i) (nx i) + pv P g t (!decide (k % 2 = 0)) (up nx i (nx i + 1)) ≤ 9 * (t + 1) := fun i => by
      have h1 := wordP_lt (pl P i) (nx i)
      have h2 := pv_le (P := P) (g := g) t (!decide (k % 2 = 0)) (up nx i (nx i + 1))
      omega
    have inner : ∀ m i B mi u3 u4, i + m = P.length → (∀ w, B = some w → w ≤ 9 * (t + 1)) → stD P g mi → mi 88 k = nI i - 1 → mi 89 k = bestA acc B → lvR mi k nx acc → (∀ mi', sameB mi mi' k → finD L ml d Q n k (nI (acc + (itR (fun i B => if mayX P g nx i then updB (decide (k % 2 = 0)) B (wordP (pl P i) (nx i) + pv P g t (!decide (k % 2 = 0)) (up nx i (nx i + 1))) else B) m i B).getD 0)) mi') → X 223 65 [.ref 68, .int (nI n), .int (nI k), u3, u4] [] (SH L, mi, ml, MR) (d + 4) Q := by
      intro m
      induction m with
      | zero =>
        intro i B mi u3 u4 hi hB hst h88 h89 hlv fin
        refine c223_65 (i := i) (B := B) (acc := acc) hP (by omega) hn (by omega) (by omega) (fun w h => by have := hB w h; omega) hst.1 h88 h89 hlv (fun _ => ?_) (fun _ h => by omega)
        exact fin _ (hsw _ _ _)
      | succ m ihm =>
        intro i B mi u3 u4 hi hB hst h88 h89 hlv fin
        have hiP : i < P.length := by omega
        have hbn := hnx i
        have hst1 : stD P g (xw mi 88 k (nI i)) := sameB_st hst (hsw _ _ _)
        have hm1s := hsw mi k (nI i)
        have hlv1 := hlw mi k (nI i) nx acc hlv
        have r88 : xw mi 88 k (nI i) 88 k = nI (i + 1) - 1 := by
          rw [xw_eq, if_pos rfl]
          exact (nI_sub (a := i + 1) (b := 1) (by omega)).symm
        have r89 : xw mi 88 k (nI i) 89 k = bestA acc B := by rw [xw_ne (by omega)]; exact h89
        refine c223_65 (i := i) (B := B) (acc := acc) hP (by omega) hn (by omega) (by omega) (fun w h => by have := hB w h; omega) hst.1 h88 h89 hlv (fun h => by omega) (fun _ _ => ?_)
        generalize xw mi 88 k (nI i) = m1 at hst1 hm1s hlv1 r88 r89
        rw [c182 (d := d) (by omega) hst1.2.1 (hst1.2.2 i hiP) (hok.2 i hiP) hd (hw i) (by omega), ret1, s223_165g]
        have estep : ∀ B, itR (fun i B => if mayX P g nx i then updB (decide (k % 2 = 0)) B (wordP (pl P i) (nx i) + pv P g t (!decide (k % 2 = 0)) (up nx i (nx i + 1))) else B) (m + 1) i B = itR (fun i B => if mayX P g nx i then updB (decide (k % 2 = 0)) B (wordP (pl P i) (nx i) + pv P g t (!decide (k % 2 = 0)) (up nx i (nx i + 1))) else B) m (i + 1) (if mayX P g nx i then updB (decide (k % 2 = 0)) B (wordP (pl P i) (nx i) + pv P g t (!decide (k % 2 = 0)) (up nx i (nx i + 1))) else B) := fun B => rfl
        rw [estep] at fin
        by_cases hmp : mayP (pl P i) (gW g i) (nx i) (gE g i) (gD g)
        · have hm : mayX P g nx i := ⟨hiP, hmp⟩
          have hn9 := mayX_lt hm
          have hwl := wordP_lt (pl P i) (nx i)
          have hpv := pv_le (P := P) (g := g) t (!decide (k % 2 = 0)) (up nx i (nx i + 1))
          rw [if_pos hm] at fin
          have e7 : (7 : Int32) * nI k = nI (7 * k) := nI_mul 7 k
          have e77 : nI (7 * k) + 7 = nI (7 * k + 7) := nI_add _ 7
          rw [bI_t hmp, if_neg i1_ne0, e7, e77]
          refine Eq.mpr (c188s (a := 7 * k) (b := 7 * k + 7) (n := 7) (n0 := 42) rfl (by omega) (by omega) (by omega)) ?_
          have hcp : ∀ j, j < 7 → xcpy m1 87 (7 * k) 87 (7 * k + 7) 7 87 (7 * k + 7 + j) = m1 87 (7 * k + j) := fun j hj => by
            simp only [xcpy]
            rw [if_pos ⟨trivial, by omega, by omega⟩]
            congr 1
            omega
          have hcs : ∀ a j, (a = 87 → j < 7 * k + 7) → xcpy m1 87 (7 * k) 87 (7 * k + 7) 7 a j = m1 a j := fun a j h1 => by
            simp only [xcpy]
            rw [if_neg (fun z => by have := h1 z.1; omega)]
          generalize xcpy m1 87 (7 * k) 87 (7 * k + 7) 7 = m2 at hcp hcs
          have hst2 : stD P g m2 := stD_same hst1 (fun a j h1 h2 h3 => hcs a j (fun z => absurd z h1))
          have e1 : (7 : Int32) * (nI k + 1) = nI (7 * k + 7) := by rw [nI_1, show (7 : Int32) * nI (k + 1) = nI (7 * (k + 1)) from nI_mul 7 (k + 1)]; rfl
          have e16 : nI (7 * k + 7) + 6 = nI (7 * k + 7 + 6) := nI_add _ 6
          have e1i : nI (7 * k + 7) + nI i = nI (7 * k + 7 + i) := nI_add _ _
          have v6 : m2 87 (7 * k + 7 + 6) = nI acc := by rw [hcp 6 (by omega)]; exact hlv1.2
          have vi : m2 87 (7 * k + 7 + i) = nI (nx i) := by rw [hcp i (by omega)]; exact hlv1.1 i (by omega)
          rw [ret0, s223_192g (by rw [e1, e16]; exact xin_nI (by omega) (by omega)) (by rw [e1, e1i]; exact xin_nI (by omega) (by omega)), e1, e16, e1i, nI_clamp (by omega), nI_clamp (by omega), v6, vi, c180 (by omega) (hst2.2.2 i hiP) (hok.2 i hiP) (by omega), ret1, nI_1]
          have e7k : (7 : Int32) * nI (k + 1) = nI (7 * k + 7) := nI_mul 7 (k + 1)
          have hxk : xin (nI (k + 1)) 6 = true := xin_nI (by omega) (by omega)
          rw [s223_224g (xin_nI (by omega) (by omega)) (by rw [e7k, e1i]; exact xin_nI (by omega) (by omega)) (by rw [e7k, e1i]; exact xin_nI (by omega) (by omega)) hxk hxk, nI_add, e7k, e1i, nI_clamp (by omega), nI_clamp (by omega), nI_clamp (by omega), xw_eq, if_neg (by omega), vi, nI_1]
          have hm3 : ∀ a j, (a = 87 → j < 7 * k + 7) → (a = 88 → j < k + 1) → (a = 89 → j < k + 1) → xw (xw (xw (xw m2 87 (7 * k + 7 + 6) (nI (acc + wordP (pl P i) (nx i)))) 87 (7 * k + 7 + i) (nI (nx i + 1))) 88 (k + 1) (-1)) 89 (k + 1) (-9) a j = m2 a j := fun a j h1 h2 h3 => by
            unfold xw
            rw [if_neg (fun z => by have := h3 z.1; omega), if_neg (fun z => by have := h2 z.1; omega), if_neg (fun z => by have := h1 z.1; omega), if_neg (fun z => by have := h1 z.1; omega)]
          have h388 : xw (xw (xw (xw m2 87 (7 * k + 7 + 6) (nI (acc + wordP (pl P i) (nx i)))) 87 (7 * k + 7 + i) (nI (nx i + 1))) 88 (k + 1) (-1)) 89 (k + 1) (-9) 88 (k + 1) = nI 0 - 1 := by
            rw [xw_ne (by omega), xw_eq, if_pos rfl]
            rfl
          have h389 : xw (xw (xw (xw m2 87 (7 * k + 7 + 6) (nI (acc + wordP (pl P i) (nx i)))) 87 (7 * k + 7 + i) (nI (nx i + 1))) 88 (k + 1) (-1)) 89 (k + 1) (-9) 89 (k + 1) = -9 := by
            rw [xw_eq, if_pos rfl]
          have h3lv : lvR (xw (xw (xw (xw m2 87 (7 * k + 7 + 6) (nI (acc + wordP (pl P i) (nx i)))) 87 (7 * k + 7 + i) (nI (nx i + 1))) 88 (k + 1) (-1)) 89 (k + 1) (-9)) (k + 1) (up nx i (nx i + 1)) (acc + wordP (pl P i) (nx i)) := by
            refine ⟨fun j hj => ?_, ?_⟩
            · rw [xw_ne (by omega), xw_ne (by omega), xw_eq, show 7 * (k + 1) + j = 7 * k + 7 + j by omega]
              unfold up
              by_cases hji : j = i
              · rw [if_pos (by omega), if_pos hji]
              · rw [if_neg (by omega), if_neg hji, xw_eq, if_neg (by omega), hcp j (by omega)]
                exact hlv1.1 j hj
            · rw [xw_ne (by omega), xw_ne (by omega), xw_eq, show 7 * (k + 1) + 6 = 7 * k + 7 + 6 by omega, if_neg (by omega), xw_eq, if_pos rfl]
          generalize xw (xw (xw (xw m2 87 (7 * k + 7 + 6) (nI (acc + wordP (pl P i) (nx i)))) 87 (7 * k + 7 + i) (nI (nx i + 1))) 88 (k + 1) (-1)) 89 (k + 1) (-9) = m3 at hm3 h388 h389 h3lv
          have hm31 : ∀ a j, (a = 87 → j < 7 * k + 7) → (a = 88 → j < k + 1) → (a = 89 → j < k + 1) → m3 a j = m1 a j := fun a j h1 h2 h3 => by rw [hm3 a j h1 h2 h3, hcs a j h1]
          have hst3 : stD P g m3 := stD_same hst1 (fun a j h1 h2 h3 => hm31 a j (fun z => absurd z h1) (fun z => absurd z h2) (fun z => absurd z h3))
          refine ih (k + 1) (up nx i (nx i + 1)) (acc + wordP (pl P i) (nx i)) m3 _ _ (by omega) (by omega) (fun j => ?_) hst3 h388 h389 h3lv (fun m4 hs4 => ?_)
          · have := hnx j
            unfold up
            split <;> omega
          · unfold finD
            rw [if_neg (by omega)]
            intro x3 x4
            have hm41 : ∀ a j, (a = 87 → j < 7 * k + 7) → (a = 88 → j < k + 1) → (a = 89 → j < k + 1) → m4 a j = m1 a j := fun a j h1 h2 h3 => by rw [hs4 a j (fun z => by have := h1 z; omega) h2 h3, hm31 a j h1 h2 h3]
            have hst4 : stD P g m4 := stD_same hst1 (fun a j h1 h2 h3 => hm41 a j (fun z => absurd z h1) (fun z => absurd z h2) (fun z => absurd z h3))
            have h489 : m4 89 k = bestA acc B := by rw [hm41 _ _ (by omega) (by omega) (by omega)]; exact r89
            have epar : decide ((k + 1) % 2 = 0) = !decide (k % 2 = 0) := by
              rcases (by omega : k % 2 = 0 ∨ k % 2 = 1) with h | h
              · rw [decide_eq_true h, decide_eq_false (by omega)]; rfl
              · rw [decide_eq_false (show ¬ k % 2 = 0 by omega), decide_eq_true (show (k + 1) % 2 = 0 by omega)]; rfl
            rw [epar, show k + 1 - 1 = k from rfl, Nat.add_assoc, c222 (by omega) (by omega) (by omega) (fun w h => by have := hB w h; omega) h489, ret0, s223_146g]
            refine ihm (i + 1) (updB (decide (k % 2 = 0)) B (wordP (pl P i) (nx i) + pv P g t (!decide (k % 2 = 0)) (up nx i (nx i + 1)))) _ _ _ (by omega) (updB_le hB (hFb i)) (stD_same hst4 (fun a j h1 h2 h3 => xw_ne h3 j)) (by rw [xw_ne (by omega), hm41 _ _ (by omega) (by omega) (by omega)]; exact r88) (by rw [xw_eq, if_pos rfl]) ⟨fun j hj => by rw [xw_ne (by omega), hm41 _ _ (by omega) (by omega) (by omega)]; exact hlv1.1 j hj, by rw [xw_ne (by omega), hm41 _ _ (by omega) (by omega) (by omega)]; exact hlv1.2⟩ (fun m5 hs5 => fin m5 (fun a j h1 h2 h3 => ?_))
            rw [hs5 a j h1 h2 h3]
            have : xw m4 89 k (bestA acc (updB (decide (k % 2 = 0)) B (wordP (pl P i) (nx i) + pv P g t (!decide (k % 2 = 0)) (up nx i (nx i + 1))))) a j = m4 a j := by
              unfold xw
              rw [if_neg (fun z => by have := h3 z.1; omega)]
            rw [this, hm41 a j (fun z => by have := h1 z; omega) (fun z => by have := h2 z; omega) (fun z => by have := h3 z; omega)]
            exact hm1s a j h1 h2 h3
        · have hm : ¬ mayX P g nx i := fun z => hmp z.2
          rw [if_neg hm] at fin
          rw [bI_f hmp, if_pos rfl]
          exact ihm (i + 1) B m1 _ _ (by omega) hB hst1 r88 r89 hlv1 (fun m5 hs5 => fin m5 (fun a j h1 h2 h3 => by rw [hs5 a j h1 h2 h3, hm1s a j h1 h2 h3]))
    refine inner P.length 0 none mi u3 u4 (by omega) (fun w h => by cases h) hst h88 h89 hlv (fun m5 hs5 => ?_)
    have e := itR_eq (F := fun i B => if mayX P g nx i then updB (decide (k % 2 = 0)) B (wordP (pl P i) (nx i) + pv P g t (!decide (k % 2 = 0)) (up nx i (nx i + 1))) else B) P.length 0 none
    have e : itR (fun i B => if mayX P g nx i then updB (decide (k % 2 = 0)) B (wordP (pl P i) (nx i) + pv P g t (!decide (k % 2 = 0)) (up nx i (nx i + 1))) else B) P.length 0 none = itN (fun i B => if mayX P g nx i then updB (decide (k % 2 = 0)) B (wordP (pl P i) (nx i) + pv P g t (!decide (k % 2 = 0)) (up nx i (nx i + 1))) else B) (0 + P.length) none := e
    have e6 := itN_ext (F := fun i B => if mayX P g nx i then updB (decide (k % 2 = 0)) B (wordP (pl P i) (nx i) + pv P g t (!decide (k % 2 = 0)) (up nx i (nx i + 1))) else B) (n := P.length) (6 - P.length) none (fun i hi B => if_neg (fun z => by have := z.1; omega))
    rw [show P.length + (6 - P.length) = 6 by omega] at e6
    rw [e, Nat.zero_add, ← e6]
    exact fin m5 hs5
end NODE
theorem op_duel (x : Int32) : OpI 130 223 [.int x] := op_of fun R T P D K S hok => by
  have hP := hok.1.1
  have hD := hok.2.1.1
  have hb := rep_le P D
  have q0 : (0 : Int64) = (0 : Int32).toInt64 := rfl
  have q5 : (5 : Int64) = (nI 5).toInt64 := rfl
  rcases num_cases x 6 (by omega) with hx | ⟨n, hn, rfl⟩
  · have hbad := in_bad (n := 5) (by omega) hx
    refine ex_ret (.int (-1)) ⟨_, rfl⟩ hok (fun L mi ml Q h k => ?_) (fun L mi ml Q h k => ?_)
    · rw [s130]
      by_cases h0 : x < 0
      · rw [if_pos h0]; exact k mi ml h sameM_rf
      · rw [if_neg h0, if_pos (show (5 : Int32) < x from Classical.byContradiction fun z => hbad ⟨h0, z⟩)]; exact k mi ml h sameM_rf
    · rw [s223, q0, q5, c149, ret1, bI_f hbad, s223_9, if_pos rfl]; exact k mi ml h sameC_rf
  have C1 : ∀ L mi ml Q, Cst R T P D K S mi ml → Xm 130 [.ref 2, .int (nI n)] (SH L, mi, ml, MR) 99 Q = X 130 18 [.ref 2, .int (nI n)] [.int (if (0 : Int32) < nI P.length then 0 else 1)] (SH L, mi, ml, MR) 99 Q := fun L mi ml Q h => by
    rw [s130, if_neg (nI_nneg (by omega)), if_neg (show ¬ (5 : Int32) < nI n from nI_nlt (a := 5) (by omega) (by omega)), s17, h.2.2.1.1]
    split <;> rw [ret1]
  by_cases h0 : P.length = 0
  · refine ex_ret (.int (-4)) ⟨_, rfl⟩ hok (fun L mi ml Q h k => ?_) (fun L mi ml Q h k => ?_)
    · rw [C1 L mi ml Q h, h0, if_neg (by decide), s130_18, if_neg i1_ne0]; exact k mi ml h sameM_rf
    · rw [s223, q0, q5, c149, ret1, bI_t (in_ok (n := 5) (by omega) (by omega)), s223_9, if_neg i1_ne0, h.2.2.1.1, h0, if_pos (by decide)]; exact k mi ml h sameC_rf
  refine ex_ret (.int (nI (pv P (rep P D) n true (gP (rep P D))))) ⟨_, rfl⟩ hok (fun L mi ml Q h k => ?_) (fun L mi ml Q h k => ?_)
  · have h1 := Cst_scr (mi' := hvW mi (opX P (rep P D) (gP (rep P D))) (gP (rep P D)) 6) (ml' := ml) hP h (fun a j ha => hvW_ne (by omega) (by omega)) (fun _ _ _ => rfl)
    rw [C1 L mi ml Q h, if_pos ((nI_pos_iff (by omega)).mpr (by omega)), s130_18, if_pos rfl, c34 (d := 94) hok.1 hok.2.1 h.2.2.1, ret0, s130_31, s42, if_neg (show ¬ (5 : Int32) < nI n from nI_nlt (a := 5) (by omega) (by omega))]
    refine Eq.mpr (c43 (L := L) (ml := ml) (mi := mi) (g := rep P D) hok.1 h.2.2.1.1 (fun i hi => cG_pl h.2.2.1 hi) n true (gP (rep P D)) (97 - 3 - n) 97 (by omega) (by omega) _) ?_
    rw [ret1, s42_10, ret1, s130_39]
    exact k _ _ h1.1 h1.2
  · have hg := mG_g h.2.2.1
    rw [s223, q0, q5, c149, ret1, bI_t (in_ok (n := 5) (by omega) (by omega)), s223_9, if_neg i1_ne0, h.2.2.1.1, if_neg (nI_ne0 (by omega) (by omega))]
    refine Eq.mpr (c188 (a := 6) (b := 0) (n := 6) (n0 := 15) (n2 := 42) rfl rfl (by omega) (by omega) (by omega) (by omega) (by omega)) ?_
    rw [ret0, s223_40, show (6 : Int32).toNatClampNeg = 6 from rfl, show (0 : Int32).toNatClampNeg = 0 from rfl]
    have hm : ∀ a j, a ≠ 87 → a ≠ 88 → a ≠ 89 → xw (xw (xw (xcpy mi 77 6 87 0 6) 87 6 0) 88 0 (-1)) 89 0 (-9) a j = mi a j := fun a j h1 h2 h3 => by
      rw [xw_ne h3, xw_ne h2, xw_ne h1]
      simp only [xcpy]
      rw [if_neg (fun z => h1 z.1)]
    have hst : stD P (rep P D) (xw (xw (xw (xcpy mi 77 6 87 0 6) 87 6 0) 88 0 (-1)) 89 0 (-9)) := stD_same (mi := mi) ⟨h.2.2.1.1, hg, fun i hi => mG_pl h.2.2.1 hi⟩ hm
    refine c223_node (d := 95) (g := rep P D) (n := n) hok.1 (by omega) (by omega) (fun i => by have := hb.2 i; omega) n 0 (gP (rep P D)) 0 _ _ _ (by omega) (by omega) (fun j => by have := hb.2 j; omega) hst (by rw [xw_ne (by omega), xw_eq, if_pos rfl]; rfl) (by rw [xw_eq, if_pos rfl]) ⟨fun j hj => ?_, ?_⟩ (fun m2 hs2 => ?_)
    · rw [xw_ne (by omega), xw_ne (by omega), xw_eq, if_neg (by omega)]
      simp only [xcpy]
      rw [if_pos ⟨trivial, by omega, by omega⟩, hg (6 + (7 * 0 + j - 0)) (by omega)]
      unfold encN
      rw [if_neg (by omega), if_pos (by omega), show 6 + (7 * 0 + j - 0) - 6 = j by omega]
    · rw [xw_ne (by omega), xw_ne (by omega), xw_eq, if_pos (by omega)]
      rfl
    · unfold finD
      rw [if_pos rfl, Nat.zero_add]
      have hM := Mst_scr (mi' := m2) h (fun j hj => by rw [hs2 68 j (by omega) (by omega) (by omega), hm _ _ (by omega) (by omega) (by omega)]) (fun a j ha hb => by rw [hs2 a j (by omega) (by omega) (by omega), hm _ _ (by omega) (by omega) (by omega)])
      exact k _ _ hM.1 hM.2
