/-! the model reads; fault -/
def txR (mi : Nat → Nat → Int32) (t : Nat) (xs : List Int32) : Prop := mi 71 t = nI xs.length ∧ ∀ j, j < xs.length → mi 72 (60 * t + j) = xs.getD j 0
def bt (xs : List Int32) (i : Nat) : Int32 := if i < xs.length then xs.getD i 0 else -1000
def sameRd (mi mi' : Nat → Nat → Int32) : Prop := ∀ a j, a ≠ 82 → (a = 68 → j ≠ 19 ∧ j ≠ 20) → mi' a j = mi a j
theorem xw_same {m : Nat → Nat → Int32} {a k : Nat} {v : Int32} (h : m a k = v) : xw m a k v = m := by
  funext b j
  unfold xw
  split
  · rename_i hc; rw [hc.1, hc.2, h]
  · rfl
section MREAD
variable {L : Nat} {mi : Nat → Nat → Int32} {ml : Nat → Nat → Int64} {d : Nat} {Q : Option Value → xM → Prop} {t : Nat} {xs : List Int32} {ps : List Nat}
theorem txR_same {mi' : Nat → Nat → Int32} (h : txR mi t xs) (hs : sameRd mi mi') : txR mi' t xs := ⟨by rw [hs _ _ (by omega) (fun z => by omega)]; exact h.1, fun j hj => by rw [hs _ _ (by omega) (fun z => by omega)]; exact h.2 j hj⟩
theorem c165 {i : Nat} (ht : t < 4) (hx : xs.length ≤ 60) (h : txR mi t xs) (hi : mi 68 19 = nI i) (hi2 : i ≤ xs.length) : Xm 165 [.ref 68, .int (nI t)] (SH L, mi, ml, MR) d Q = Q (some (.int (bt xs i))) (SH L, mi, ml, MR) := by
  have e : (60 : Int32) * nI t + nI i = nI (60 * t + i) := by rw [show (60 : Int32) = nI 60 from rfl, nI_mul, nI_add]
  rw [s165 (xin_nI ht (by omega)) (fun z => by
    rw [hi, nI_clamp (by omega), h.1] at z
    have := (nI_ltI (by omega) (by omega)).mp z
    rw [hi, e]
    exact xin_nI (by omega) (by omega)), hi, nI_clamp (by omega), h.1, e, nI_clamp (by omega)]
  unfold bt
  by_cases hc : i < xs.length
  · rw [if_pos (nI_lt hc (by omega)), if_pos hc, h.2 i hc]
  · rw [if_neg (nI_nlt (by omega) (by omega)), if_neg hc]
theorem c166_loop (ht : t < 4) (hx : xs.length ≤ 60) (h4 : ps.length % 4 = 0) : ∀ n i mi, i + n = xs.length → txR mi t xs → mi 68 19 = nI i → (∀ n' i', n' ≤ n → i' + n' = xs.length → (n' = 0 ∨ xs.getD i' 0 ≠ 32) → scan xs n i ps = scan xs n' i' ps → Q none (SH L, xw mi 68 19 (nI i'), ml, MR)) → X 166 0 [.ref 68, .int (nI t)] [] (SH L, mi, ml, MR) (d + 1) Q := by
  intro n
  induction n with
  | zero =>
    intro i mi hi htx h19 k
    have hk := k 0 i (Nat.le_refl _) hi (Or.inl rfl) rfl
    rw [xw_same h19] at hk
    have hbt : bt xs i = -1000 := by unfold bt; rw [if_neg (by omega)]
    rw [s166_0, c165 ht hx htx h19 (by omega), ret1, s166_5, hbt, if_neg (by decide)]
    exact hk
  | succ n ih =>
    intro i mi hi htx h19 k
    have hbt : bt xs i = xs.getD i 0 := by unfold bt; rw [if_pos (by omega)]
    rw [s166_0, c165 ht hx htx h19 (by omega), ret1, s166_5, hbt]
    by_cases h32 : xs.getD i 0 = 32
    · rw [if_pos h32, h19, nI_1]
      rw [scan_blank h4 h32] at k
      refine ih (i + 1) _ (by omega) ⟨by rw [xw_ne (by omega)]; exact htx.1, fun j hj => by rw [xw_ne (by omega)]; exact htx.2 j hj⟩ (by rw [xw_eq, if_pos rfl]) (fun n' i' a1 a2 a3 a4 => ?_)
      rw [xw_xw]
      exact k n' i' (by omega) a2 a3 a4
    · have hk := k (n + 1) i (Nat.le_refl _) hi (Or.inr h32) rfl
      rw [xw_same h19] at hk
      rw [if_neg h32]
      exact hk
theorem c168_loop {x2 : Int32} {b N : Nat} {mi0 : Nat → Nat → Int32} {r : Option Nat × List Nat} (ht : t < 4) (hx : xs.length ≤ 60) (hb4 : b % 4 = 0) (hb24 : b + 4 ≤ 24) (kf : ∀ mi' i', mi' 68 19 = nI i' → ¬ okR r → fltV xs.length r = nI i' → sameRd mi0 mi' → Q (some (.int 0)) (SH L, mi', ml, MR)) (ko : ∀ mi' n' i' ps', n' ≤ N → i' + n' = xs.length → ps'.length = b + 4 → psOK ps' → scan xs n' i' ps' = r → mi' 68 19 = nI i' → mi' 68 20 = nI (b / 4 + 1) → (∀ j, j < ps'.length → mi' 82 j = nI (ps'.getD j 0)) → sameRd mi0 mi' → Q (some (.int 1)) (SH L, mi', ml, MR)) : ∀ q k n i ps mi u5, k + q = 4 → 1 ≤ k → n ≤ N → i + n = xs.length → ps.length = b + k → psOK ps → scan xs n i ps = r → txR mi t xs → mi 68 19 = nI i → mi 68 20 = nI (b / 4) → (∀ j, j < ps.length → mi 82 j = nI (ps.getD j 0)) → sameRd mi0 mi → X 168 51 [.ref 68, .int (nI t), .int x2, .int (nI b), .int (nI k), u5] [] (SH L, mi, ml, MR) (d + 1) Q := by
  intro q
  induction q with
  | zero =>
    intro k n i ps mi u5 hq hk hnN hi hlen hps hr htx h19 h20 h82 hs
    rw [s168_51g, if_neg (show ¬ nI k < 4 from nI_nlt (b := 4) (by omega) (by omega)), h20, nI_1]
    exact ko _ n i ps hnN hi (by omega) hps hr (by rw [xw_eq, if_neg (by omega)]; exact h19) (by rw [xw_eq, if_pos rfl]) (fun j hj => by rw [xw_ne (by omega)]; exact h82 j hj) (fun a j h1 h2 => by
      rw [← hs a j h1 h2]
      unfold xw
      rw [if_neg (fun z => (h2 z.1).2 z.2)])
  | succ q ih =>
    intro k n i ps mi u5 hq hk hnN hi hlen hps hr htx h19 h20 h82 hs
    have h4 : ps.length % 4 = k := by omega
    have hl : (if ps.length % 4 = 2 then (1 : Int32) else 0) = 0 ∨ (if ps.length % 4 = 2 then (1 : Int32) else 0) = 1 := by split; exact Or.inr rfl; exact Or.inl rfl
    rw [s168_51g, if_pos (show nI k < 4 from nI_lt (b := 4) (by omega) (by omega)), c165 ht hx htx h19 (by omega), ret1, s168_62g]
    have e9 : (9 : Int64) = (9 : Int32).toInt64 := rfl
    have e1 : (1 : Int64) = (1 : Int32).toInt64 := rfl
    have e0 : (0 : Int64) = (0 : Int32).toInt64 := rfl
    have step : (if nI k = 2 then (Xm 149 [.long (bt xs i - 48).toInt64, .long 1, .long 9] (SH L, mi, ml, MR) d (fun v μ' => X 168 87 [.ref 68, .int (nI t), .int x2, .int (nI b), .int (nI k), .int (bt xs i - 48)] (v.toList ++ []) μ' (d + 1) Q)) else (Xm 149 [.long (bt xs i - 48).toInt64, .long 0, .long 9] (SH L, mi, ml, MR) d (fun v μ' => X 168 87 [.ref 68, .int (nI t), .int x2, .int (nI b), .int (nI k), .int (bt xs i - 48)] (v.toList ++ []) μ' (d + 1) Q))) = X 168 87 [.ref 68, .int (nI t), .int x2, .int (nI b), .int (nI k), .int (bt xs i - 48)] [.int (bI (¬ bt xs i - 48 < (if ps.length % 4 = 2 then (1 : Int32) else 0) ∧ ¬ 9 < bt xs i - 48))] (SH L, mi, ml, MR) (d + 1) Q := by
      by_cases h2 : k = 2
      · have : ps.length % 4 = 2 := by omega
        rw [if_pos (show nI k = 2 by rw [h2]; rfl), e1, e9, c149, ret1]
        simp only [if_pos this]
      · have : ¬ ps.length % 4 = 2 := by omega
        rw [if_neg (show ¬ nI k = 2 from fun z => h2 (nI_inj (b := 2) (by omega) (by omega) z)), e0, e9, c149, ret1]
        simp only [if_neg this]
    rw [step]
    have ebk : nI b + nI k = nI ps.length := by rw [nI_add, ← hlen]
    rw [s168_87 (fun _ => by rw [ebk]; exact xin_nI (by omega) (by omega))]
    cases n with
    | zero =>
      have hbt : bt xs i = -1000 := by unfold bt; rw [if_neg (by omega)]
      have hno : ¬ (¬ bt xs i - 48 < (if ps.length % 4 = 2 then (1 : Int32) else 0) ∧ ¬ 9 < bt xs i - 48) := by
        rw [hbt]
        split
        · decide
        · decide
      rw [bI_f hno, if_pos rfl]
      subst hr
      refine kf mi i h19 (fun z => by have := z.2.2; simp only [scan] at this; omega) ?_ hs
      show (if 0 < ps.length ∧ ps.length % 4 = 0 then (-9 : Int32) else nI xs.length) = nI i
      rw [if_neg (by omega), show i = xs.length by omega]
    | succ n =>
      have hbt : bt xs i = xs.getD i 0 := by unfold bt; rw [if_pos (by omega)]
      have hb : ¬ (ps.length % 4 = 0 ∧ xs.getD i 0 = 32) := by omega
      have ev : valN ps.length (xs.getD i 0) = figN (if ps.length % 4 = 2 then 1 else 0) (xs.getD i 0) := by
        unfold valN
        rw [if_neg (by omega)]
      rw [hbt]
      by_cases hg : ¬ xs.getD i 0 - 48 < (if ps.length % 4 = 2 then (1 : Int32) else 0) ∧ ¬ 9 < xs.getD i 0 - 48
      · rw [bI_t hg, if_neg i1_ne0, ebk, nI_clamp (by omega), xw_ne (by omega), h19, nI_1, nI_1]
        have hf : figN (if ps.length % 4 = 2 then 1 else 0) (xs.getD i 0) = some (xs.getD i 0 - 48).toNatClampNeg := by
          unfold figN
          rw [if_pos hg]
        have hfs := figN_some hl hf
        have ev2 := ev.trans hf
        generalize (xs.getD i 0 - 48).toNatClampNeg = v at hfs ev2
        rw [hfs.1]
        rw [scan_some hb ev2] at hr
        refine ih (k + 1) n (i + 1) (ps ++ [v]) _ _ (by omega) (by omega) (by omega) (by omega) (by rw [List.length_append, List.length_singleton]; omega) (psOK_add hps ev2) hr ⟨by rw [xw_ne (by omega), xw_ne (by omega)]; exact htx.1, fun j hj => by rw [xw_ne (by omega), xw_ne (by omega)]; exact htx.2 j hj⟩ (by rw [xw_eq, if_pos rfl]) (by rw [xw_eq, if_neg (by omega), xw_ne (by omega)]; exact h20) (fun j hj => ?_) (fun a j h1 h2 => ?_)
        · rw [List.length_append, List.length_singleton] at hj
          rw [xw_ne (by omega), xw_eq, getD_add]
          by_cases hc : j < ps.length
          · rw [if_neg (by omega), if_pos hc]
            exact h82 j hc
          · rw [if_pos (by omega), if_neg hc, if_pos (by omega)]
        · rw [← hs a j h1 h2]
          unfold xw
          rw [if_neg (fun z => (h2 z.1).1 z.2), if_neg (fun z => h1 z.1)]
      · rw [bI_f hg, if_pos rfl]
        have hf : figN (if ps.length % 4 = 2 then 1 else 0) (xs.getD i 0) = none := by
          unfold figN
          rw [if_neg hg]
        rw [scan_none hb (ev.trans hf)] at hr
        subst hr
        exact kf mi i h19 (fun z => by cases z.1) rfl hs
theorem c168 {n i : Nat} (ht : t < 4) (hx : xs.length ≤ 60) (hi : i + n = xs.length) (hps : psOK ps) (h4 : ps.length % 4 = 0) (hn : n = 0 → ps.length = 0) (h32 : n = 0 ∨ xs.getD i 0 ≠ 32) (htx : txR mi t xs) (h19 : mi 68 19 = nI i) (h20 : mi 68 20 = nI (ps.length / 4)) (h82 : ∀ j, j < ps.length → mi 82 j = nI (ps.getD j 0)) (kf : ∀ mi' i', mi' 68 19 = nI i' → ¬ okR (scan xs n i ps) → fltV xs.length (scan xs n i ps) = nI i' → sameRd mi mi' → Q (some (.int 0)) (SH L, mi', ml, MR)) (ko : ∀ mi' n' i' ps', n' < n → i' + n' = xs.length → ps'.length % 4 = 0 → 0 < ps'.length → psOK ps' → scan xs n i ps = scan xs n' i' ps' → mi' 68 19 = nI i' → mi' 68 20 = nI (ps'.length / 4) → (∀ j, j < ps'.length → mi' 82 j = nI (ps'.getD j 0)) → sameRd mi mi' → Q (some (.int 1)) (SH L, mi', ml, MR)) : Xm 168 [.ref 68, .int (nI t)] (SH L, mi, ml, MR) (d + 1) Q := by
  have hl := hps.1
  have e4 : (4 : Int32) * nI (ps.length / 4) = nI ps.length := by
    rw [show (4 : Int32) = nI 4 from rfl, nI_mul]
    congr 1
    omega
  have e20 : ∀ v : Int32, xw mi 68 19 v 68 20 = nI (ps.length / 4) := fun v => by rw [xw_eq, if_neg (by omega), h20]
  rw [s168, c165 ht hx htx h19 (by omega), ret1, s168_5, c167, ret1, s168_8 (fun _ z => by
    rw [h20] at z
    have : ¬ ps.length / 4 = 6 := fun w => z (by rw [w]; rfl)
    rw [e20, e4]
    exact xin_nI (by omega) (by omega)), h20, e20, e4, h19, nI_1]
  cases n with
  | zero =>
    have hbt : bt xs i = -1000 := by unfold bt; rw [if_neg (by omega)]
    rw [hbt, if_pos (by decide)]
    have h0 := hn rfl
    refine kf mi i h19 (fun z => by have := z.2.1; simp only [scan] at this; omega) ?_ (fun _ _ _ _ => rfl)
    show (if 0 < ps.length ∧ ps.length % 4 = 0 then (-9 : Int32) else nI xs.length) = nI i
    rw [if_neg (by omega), show i = xs.length by omega]
  | succ n =>
    have hbt : bt xs i = xs.getD i 0 := by unfold bt; rw [if_pos (by omega)]
    have h32 := h32.resolve_left (by omega)
    have hb : ¬ (ps.length % 4 = 0 ∧ xs.getD i 0 = 32) := fun z => h32 z.2
    have ev : valN ps.length (xs.getD i 0) = if ps.length / 4 = 6 then none else kindN (xs.getD i 0) := by
      unfold valN
      rw [if_pos h4]
    rw [hbt]
    cases hk : kindN (xs.getD i 0) with
    | none =>
      rw [if_pos (show optI (-1) none < 0 by decide)]
      have e : scan xs (n + 1) i ps = (some i, ps) := scan_none hb (by rw [ev, hk, ite_self])
      rw [e] at kf
      exact kf mi i h19 (fun z => by cases z.1) rfl (fun _ _ _ _ => rfl)
    | some kd =>
      have hkd := kindN_lt hk
      rw [if_neg (show ¬ optI (-1) (some kd) < 0 from nI_nneg (by omega))]
      by_cases h6 : ps.length / 4 = 6
      · rw [h6, if_pos (by decide)]
        have e : scan xs (n + 1) i ps = (some i, ps) := scan_none hb (by rw [ev, if_pos h6])
        rw [e] at kf
        exact kf mi i h19 (fun z => by cases z.1) rfl (fun _ _ _ _ => rfl)
      · have hv : valN ps.length (xs.getD i 0) = some kd := by rw [ev, if_neg h6, hk]
        rw [if_neg (show ¬ nI (ps.length / 4) = 6 from fun z => h6 (nI_inj (b := 6) (by omega) (by omega) z)), nI_clamp (by omega), show optI (-1) (some kd) = nI kd from rfl]
        have hsc := scan_some (n := n) hb hv
        refine c168_loop (N := n) (mi0 := mi) (r := scan xs (n + 1) i ps) ht hx h4 (by omega) kf (fun mi' n' i' ps' a0 a1 a2 a3 a4 a5 a6 a7 a8 => ?_) 3 1 n (i + 1) (ps ++ [kd]) _ _ (by omega) (by omega) (Nat.le_refl _) (by omega) (by rw [List.length_append]; rfl) (psOK_add hps hv) hsc.symm ⟨by rw [xw_ne (by omega), xw_ne (by omega)]; exact htx.1, fun j hj => by rw [xw_ne (by omega), xw_ne (by omega)]; exact htx.2 j hj⟩ (by rw [xw_ne (by omega), xw_eq, if_pos rfl]) (by rw [xw_ne (by omega)]; exact e20 _) (fun j hj => ?_) (fun a j h1 h2 => ?_)
        · exact ko mi' n' i' ps' (by omega) a1 (by omega) (by omega) a3 a4.symm a5 (by rw [a6]; congr 1; omega) a7 a8
        · rw [List.length_append, List.length_singleton] at hj
          rw [xw_eq, getD_add]
          by_cases hc : j < ps.length
          · rw [if_neg (by omega), if_pos hc, xw_ne (by omega)]
            exact h82 j hc
          · rw [if_pos (by omega), if_neg hc, if_pos (by omega)]
        · unfold xw
          rw [if_neg (fun z => h1 z.1), if_neg (fun z => (h2 z.1).1 z.2)]
theorem c169_loop {mi0 : Nat → Nat → Int32} {r : Option Nat × List Nat} (ht : t < 4) (hx : xs.length ≤ 60) (k : ∀ mi', sameRd mi0 mi' → (okR r → mi' 68 20 = nI (r.2.length / 4) ∧ ∀ j, j < r.2.length → mi' 82 j = nI (r.2.getD j 0)) → Q (some (.int (fltV xs.length r))) (SH L, mi', ml, MR)) : ∀ n i ps mi, i + n = xs.length → psOK ps → ps.length % 4 = 0 → scan xs n i ps = r → txR mi t xs → mi 68 19 = nI i → mi 68 20 = nI (ps.length / 4) → (∀ j, j < ps.length → mi 82 j = nI (ps.getD j 0)) → sameRd mi0 mi → X 169 12 [.ref 68, .int (nI t), .int 1] [] (SH L, mi, ml, MR) (d + 2) Q := by
  intro n
  induction n using Nat.strongRecOn with
  | ind n ih =>
    intro i ps mi hi hps h4 hr htx h19 h20 h82 hs
    have hl := hps.1
    rw [s169_12, if_neg i1_ne0, s166, ← s166_0]
    refine c166_loop ht hx h4 n i mi hi htx h19 (fun n' i' a1 a2 a3 a4 => ?_)
    have hs1 : sameRd mi0 (xw mi 68 19 (nI i')) := fun a j h1 h2 => by
      rw [← hs a j h1 h2]
      unfold xw
      rw [if_neg (fun z => (h2 z.1).1 z.2)]
    have htx1 : txR (xw mi 68 19 (nI i')) t xs := ⟨by rw [xw_ne (by omega)]; exact htx.1, fun j hj => by rw [xw_ne (by omega)]; exact htx.2 j hj⟩
    have h19' : xw mi 68 19 (nI i') 68 19 = nI i' := by rw [xw_eq, if_pos rfl]
    have h20' : xw mi 68 19 (nI i') 68 20 = nI (ps.length / 4) := by rw [xw_eq, if_neg (by omega)]; exact h20
    have h82' : ∀ j, j < ps.length → xw mi 68 19 (nI i') 82 j = nI (ps.getD j 0) := fun j hj => by rw [xw_ne (by omega)]; exact h82 j hj
    generalize xw mi 68 19 (nI i') = m1 at hs1 htx1 h19' h20' h82' ⊢
    rw [ret0, s169_21 (xin_nI ht (by omega)), h19', nI_clamp (by omega), htx1.1, h20']
    have rest : (n' = 0 → ps.length = 0) → Xm 168 [.ref 68, .int (nI t)] (SH L, m1, ml, MR) (d + 1) (fun v μ' => X 169 49 [.ref 68, .int (nI t), .int 1] (v.toList ++ []) μ' (d + 2) Q) := fun hn0 => by
      refine c168 (n := n') (i := i') (ps := ps) ht hx a2 hps h4 hn0 a3 htx1 h19' h20' h82' (fun mi' i2 b1 b2 b3 b4 => ?_) (fun mi' n2 i2 ps2 b0 b1 b2 b2' b3 b4 b5 b6 b7 b8 => ?_)
      · rw [ret1, s169_49, s169_12, if_pos rfl, b1, ← b3, ← a4, hr]
        rw [← a4, hr] at b2
        exact k mi' (fun a j h1 h2 => by rw [b4 a j h1 h2, hs1 a j h1 h2]) (fun z => absurd z b2)
      · rw [ret1, s169_49]
        exact ih n2 (by omega) i2 ps2 mi' b1 b3 b2 (by rw [← b4, ← a4]; exact hr) (txR_same htx1 b8) b5 b6 b7 (fun a j h1 h2 => by rw [b8 a j h1 h2, hs1 a j h1 h2])
    by_cases hn0 : n' = 0
    · subst hn0
      rw [if_pos (show nI i' = nI xs.length by rw [show i' = xs.length by omega])]
      by_cases hp0 : 0 < ps.length
      · have er : r = (none, ps) := by rw [← hr, a4]; rfl
        rw [if_pos ((nI_pos_iff (by omega)).mpr (by omega))]
        have hk := k m1 hs1 (fun _ => by rw [er]; exact ⟨h20', h82'⟩)
        rw [er] at hk
        have e9 : fltV xs.length (none, ps) = -9 := by
          show (if 0 < ps.length ∧ ps.length % 4 = 0 then (-9 : Int32) else nI xs.length) = -9
          rw [if_pos ⟨hp0, h4⟩]
        rw [e9] at hk
        exact hk
      · rw [if_neg (fun z => hp0 (by have := (nI_pos_iff (by omega)).mp z; omega))]
        exact rest (fun _ => by omega)
    · rw [if_neg (fun z => hn0 (by have := nI_inj (by omega) (by omega) z; omega))]
      exact rest (fun z => absurd z hn0)
theorem c169 (ht : t < 4) (hx : xs.length ≤ 60) (htx : txR mi t xs) (k : ∀ mi', sameRd mi mi' → (okR (scan xs xs.length 0 []) → mi' 68 20 = nI ((scan xs xs.length 0 []).2.length / 4) ∧ ∀ j, j < (scan xs xs.length 0 []).2.length → mi' 82 j = nI ((scan xs xs.length 0 []).2.getD j 0)) → Q (some (.int (fltV xs.length (scan xs xs.length 0 [])))) (SH L, mi', ml, MR)) : Xm 169 [.ref 68, .int (nI t)] (SH L, mi, ml, MR) (d + 2) Q := by
  rw [s169]
  refine c169_loop (mi0 := mi) ht hx k xs.length 0 [] _ (by omega) ⟨by decide, fun j hj => absurd hj (Nat.not_lt_zero j)⟩ rfl rfl ⟨by rw [xw_ne (by omega), xw_ne (by omega)]; exact htx.1, fun j hj => by rw [xw_ne (by omega), xw_ne (by omega)]; exact htx.2 j hj⟩ (by rw [xw_eq, if_neg (by omega), xw_eq, if_pos rfl]; rfl) (by rw [xw_eq, if_pos rfl]; rfl) (fun j hj => absurd hj (Nat.not_lt_zero j)) (fun a j h1 h2 => ?_)
  unfold xw
  rw [if_neg (fun z => (h2 z.1).2 z.2), if_neg (fun z => (h2 z.1).1 z.2)]
end MREAD
theorem ex_SL {V : Value → Prop} {fc fm : Nat} {as : List Value} {R T : pR} {P : pP} {D : List Nat} {K : Nat → Option (List Nat)} {S : pS} (v : Value) (S' : pS) (hv : V v) (hok : ok P D K) (c : CCl fc as (some v) R T P D K S R T P D K S') (m : MM fm as (some v) R T P D K S R T P D K S') : ∃ v R' T' P' D' K' S', V v ∧ ok P' D' K' ∧ CCl fc as (some v) R T P D K S R' T' P' D' K' S' ∧ MM fm as (some v) R T P D K S R' T' P' D' K' S' := ⟨v, R, T, P, D, K, S', hv, hok, c, m⟩
theorem strip_text {L r : Nat} (hr : r < 4) : isStrip L (17 + 2 + 2 * r) 60 := ((shTexts L).2 r hr).2
theorem mT_tx {T : pR} {mi : Nat → Nat → Int32} {t : Nat} {xs : List Int32} (h : mT T mi) (ht : t < 4) (hT : T t = some xs) : txR mi t xs := by
  obtain ⟨h1, h2⟩ := h t ht
  rw [hT] at h1
  exact ⟨h1, ((h2 xs hT).2)⟩
theorem op_fault (x : Int32) : OpI 107 170 [.int x] := op_ofL fun R T P D K S hok => by
  have hP := hok.1.1
  rcases num_cases x 4 (by omega) with hx | ⟨t, ht, rfl⟩
  · refine ex_SL (.int (-1)) S ⟨_, rfl⟩ hok (fun L mi ml Q hlt h k => ?_) (fun L mi ml Q h k => ?_)
    · rw [s107, c82n (shTexts L) (by omega) (by omega) hx, ret1, s107_8n]; exact k mi ml h sameM_rf
    · rw [s170, c156, ret1, bI_f (in_bad (n := 3) (by omega) hx), s170_4 (fun z => absurd rfl z), if_pos rfl]; exact k mi ml h sameC_rf
  cases hT : T t with
  | none =>
    refine ex_SL (.int (-3)) (sFound 1 S) ⟨_, rfl⟩ hok (fun L mi ml Q hlt h k => ?_) (fun L mi ml Q h k => ?_)
    · have hst := (h.2.1 t ht).1
      rw [hT] at hst
      rw [s107, c82 (shTexts L) (by omega) ht, ret1, s107_8 (strip_text ht), c87 (x := none) (strip_text ht) hst (by omega) (fun _ h => by cases h), ret1, s107_19 (strip_text ht), bI_t rfl, if_neg i1_ne0, c141_1, ret1, s107_27 (strip_text ht)]
      exact k _ _ (Cst_found hP h).1 (Cst_found hP h).2
    · have hst := (h.2.1 t ht).1
      rw [hT] at hst
      rw [s170, c156, ret1, bI_t (in_ok (n := 3) (by omega) (by omega)), s170_4 (fun _ => xin_nI ht (by omega)), if_neg i1_ne0, nI_clamp (by omega), hst, if_pos (by decide), c152_1, ret1, s170_23]
      exact k _ _ (Mst_found h).1 (Mst_found h).2
  | some xs =>
    refine ex_SL (.int (fltV xs.length (scan xs xs.length 0 []))) S ⟨_, rfl⟩ hok (fun L mi ml Q hlt h k => ?_) (fun L mi ml Q h k => ?_)
    · obtain ⟨hst, hln⟩ := h.2.1 t ht
      have hl := hln xs hT
      rw [hT] at hst
      rw [s107, c82 (shTexts L) (by omega) ht, ret1, s107_8 (strip_text ht), c87 (strip_text ht) hst (by omega) (fun _ h => by cases h; exact hl), ret1, s107_19 (strip_text ht), bI_f (by simp), if_pos rfl]
      refine c64 (d := 95) (strip_text ht) (by omega) (by omega) hl hlt hst (fun mi' h1 h2 => ?_)
      rw [ret1, s107_38 (strip_text ht)]
      have hC := Cst_scr (ml' := ml) hP h (fun a j ha => h2 a j (by omega) (by omega)) (fun _ _ _ => rfl)
      exact k _ _ hC.1 hC.2
    · have htx := mT_tx h.2.1 ht hT
      have hl := ((h.2.1 t ht).2 xs hT).1
      rw [s170, c156, ret1, bI_t (in_ok (n := 3) (by omega) (by omega)), s170_4 (fun _ => xin_nI ht (by omega)), if_neg i1_ne0, nI_clamp (by omega), htx.1, if_neg (nI_nneg (by omega))]
      refine c169 (d := 96) ht hl htx (fun mi' h1 h2 => ?_)
      rw [ret1, s170_31]
      have hM := Mst_scr (mi' := mi') h (fun j hj => h1 68 j (by omega) (fun _ => by omega)) (fun a j ha hb => h1 a j (by omega) (fun z => absurd z ha))
      exact k _ _ hM.1 hM.2
