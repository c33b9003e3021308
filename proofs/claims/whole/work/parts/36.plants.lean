/-! word, plant, mark -/
theorem dstep_le (P : pP) (g : pG) (c : Nat) : gD (dstep P g c) ≤ gD g + 1 ∧ ∀ i, gW (dstep P g c) i ≤ gW g i + 1 ∧ gP (dstep P g c) i ≤ gP g i + 1 := by
  unfold dstep
  split
  · exact ⟨Nat.le_refl _, fun i => ⟨Nat.le_succ _, Nat.le_succ _⟩⟩
  split
  · refine ⟨Nat.le_succ _, fun i => ⟨?_, Nat.le_succ _⟩⟩
    show up _ _ _ i ≤ g.1 i + 1
    unfold up
    split
    · rename_i h; subst h; exact Nat.le_refl _
    · exact Nat.le_succ _
  split
  · refine ⟨Nat.le_succ _, fun i => ⟨Nat.le_succ _, ?_⟩⟩
    show up _ _ _ i ≤ g.2.1 i + 1
    unfold up
    split
    · rename_i h; subst h; exact Nat.le_refl _
    · exact Nat.le_succ _
  · exact ⟨Nat.le_succ _, fun i => ⟨Nat.le_succ _, Nat.le_succ _⟩⟩
theorem fold_le (P : pP) : ∀ (D : List Nat) (g : pG), gD (D.foldl (dstep P) g) ≤ gD g + D.length ∧ ∀ i, gW (D.foldl (dstep P) g) i ≤ gW g i + D.length ∧ gP (D.foldl (dstep P) g) i ≤ gP g i + D.length := by
  intro D
  induction D with
  | nil => exact fun g => ⟨Nat.le_refl _, fun i => ⟨Nat.le_refl _, Nat.le_refl _⟩⟩
  | cons c D ih =>
    intro g
    have h1 := dstep_le P g c
    have h2 := ih (dstep P g c)
    simp only [List.foldl_cons, List.length_cons]
    exact ⟨by omega, fun i => ⟨by have := (h1.2 i).1; have := (h2.2 i).1; omega, by have := (h1.2 i).2; have := (h2.2 i).2; omega⟩⟩
theorem rep_le (P : pP) (D : List Nat) : gD (rep P D) ≤ D.length ∧ ∀ i, gW (rep P D) i ≤ D.length ∧ gP (rep P D) i ≤ D.length := by
  have h := fold_le P D g0
  have e : gD g0 = 0 := rfl
  rw [e, Nat.zero_add] at h
  refine ⟨h.1, fun i => ?_⟩
  have h2 := h.2 i
  have e1 : gW g0 i = 0 := rfl
  have e2 : gP g0 i = 0 := rfl
  rw [e1, e2, Nat.zero_add] at h2
  exact h2
theorem shPlant (L : Nat) {i : Nat} (hi : i < 6) : (SH L)[42 + i]? = some (4, 7) ∧ MR 39 i = some (42 + i) := by
  rcases (by omega : i = 0 ∨ i = 1 ∨ i = 2 ∨ i = 3 ∨ i = 4 ∨ i = 5) with rfl | rfl | rfl | rfl | rfl | rfl <;> exact ⟨rfl, SH_ref (by decide +kernel)⟩
theorem isP_in {i n : Nat} (hi : i < n) (hn : n ≤ 6) : ¬ nI i < 0 ∧ ¬ (nI n - 1 < nI i) := by
  refine ⟨nI_nneg (by omega), ?_⟩
  rw [show (1 : Int32) = nI 1 from rfl, nI_sub (by omega)]
  exact nI_nlt (by omega) (by omega)
theorem isP_out {x : Int32} {n : Nat} (hn : n ≤ 6) (hx : x < 0 ∨ ¬ x < nI n) : ¬ (¬ x < 0 ∧ ¬ (nI n - 1 < x)) := by
  have h := @pred_bad x (List.replicate n 0) (by rw [List.length_replicate]; omega) (by rw [List.length_replicate]; exact hx)
  rw [show szI (some (List.replicate n (0 : Int32))) = nI n from congrArg nI List.length_replicate] at h
  exact h
def featN (p : Nat × Nat × Nat × Nat) (w q : Nat) (e : Bool) (day f : Nat) : Int32 := if f = 0 then nI p.1 else if f = 1 then nI p.2.1 else if f = 2 then nI p.2.2.1 else if f = 3 then nI p.2.2.2 else if f = 4 then nI w else if f = 5 then nI q else if f = 6 then nI (ripeP p w day) else bI (e = true)
def againN (p : Nat × Nat × Nat × Nat) (q : Nat) : Int32 := bI (0 < q ∧ q < 9 ∧ wordP p q = wordP p (q - 1))
def markN (p : Nat × Nat × Nat × Nat) (w q day f : Nat) : Int32 := if f = 1 then nI (ripeP p w day) - nI (beanN (day + w - p.2.1) p.2.2.1) else if f = 2 then nI (beanN (day + w - p.2.1) p.2.2.1) - nI (ripeP p w day) else if f = 3 then nI (day % 2) else if f = 4 then nI (wordP p 0) - nI (wordN 1 p.2.2.2 0) + 10 else againN p q
theorem wordP_lt (p : Nat × Nat × Nat × Nat) (q : Nat) : wordP p q < 10 := wordN_lt _ _ _
section PLANTS
variable {L : Nat} {mi : Nat → Nat → Int32} {ml : Nat → Nat → Int64} {d : Nat} {Q : Option Value → xM → Prop} {a i n : Nat} {p : Nat × Nat × Nat × Nat} {w q day : Nat} {e : Bool}
theorem c15_in (hn : n ≤ 6) (h : mi 38 2 = nI n) (hi : i < n) : Xm 15 [.ref 38, .int (nI i)] (SH L, mi, ml, MR) d Q = Q (some (.ref (42 + i))) (SH L, mi, ml, MR) := by
  rw [s15 (shPlant L (i := i) (by omega)).1 (fun _ _ _ => xin_nI (by omega) (by omega)) (fun _ _ _ => by rw [nI_clamp (by omega)]; exact (shPlant L (by omega)).2), if_neg (nI_nneg (by omega)), h, if_pos (nI_lt hi (by omega)), if_pos (show nI i < 6 from nI_lt (b := 6) (by omega) (by omega))]
theorem c15_out {x : Int32} (h : mi 38 2 = nI n) (hx : x < 0 ∨ ¬ x < nI n) : Xm 15 [.ref 38, .int x] (SH L, mi, ml, MR) d Q = Q (some .null) (SH L, mi, ml, MR) := by
  rw [s15 (rb26 := 42) rfl (fun z1 z2 _ => absurd z2 (by rw [h]; exact hx.resolve_left z1)) (fun z1 z2 _ => absurd z2 (by rw [h]; exact hx.resolve_left z1)), h]
  by_cases h0 : x < 0
  · rw [if_pos h0]
  · rw [if_neg h0, if_neg (hx.resolve_left h0)]
theorem c142_in (hi : i < 9) : Xm 142 [.int (nI i)] (SH L, mi, ml, MR) d Q = Q (some (.int 1)) (SH L, mi, ml, MR) := by
  rw [s142, if_neg (nI_nneg (by omega)), if_pos (show nI i < 9 from nI_lt (b := 9) hi (by omega))]
theorem c142_out {x : Int32} (hx : x < 0 ∨ ¬ x < nI 9) : Xm 142 [.int x] (SH L, mi, ml, MR) d Q = Q (some (.int 0)) (SH L, mi, ml, MR) := by
  rw [s142]
  by_cases h0 : x < 0
  · rw [if_pos h0]
  · rw [if_neg h0, if_neg (show ¬ x < 9 from hx.resolve_left h0)]
theorem c60 {f : Nat} (hf : f < 8) (hS : (SH L)[a]? = some (4, 7)) (h : plR mi a p w q e) (hp : okp p) (hd : day < 500) (hw : w < 100) : Xm 60 [.ref a, .int (nI f), .int (nI day)] (SH L, mi, ml, MR) (d + 3) Q = Q (some (.int (featN p w q e day f))) (SH L, mi, ml, MR) := by
  obtain ⟨h0, h1, h2, h3, h4, h5, h6⟩ := id h
  rw [s60 hS, h0, h1, h2, h3, h4, h5, h6, c54 hS h hp hd hw, ret1, s60_79 hS]
  rcases (by omega : f = 0 ∨ f = 1 ∨ f = 2 ∨ f = 3 ∨ f = 4 ∨ f = 5 ∨ f = 6 ∨ f = 7) with rfl | rfl | rfl | rfl | rfl | rfl | rfl | rfl
  · rfl
  · rfl
  · rfl
  · rfl
  · rfl
  · rfl
  · rfl
  · cases e <;> rfl
theorem c62 (hS : (SH L)[a]? = some (4, 7)) (h : plR mi a p w q e) (hp : okp p) (hq : q < 100) : Xm 62 [.ref a] (SH L, mi, ml, MR) (d + 2) Q = Q (some (.int (againN p q))) (SH L, mi, ml, MR) := by
  have h5 := h.2.2.2.2.2.1
  unfold againN
  rw [s62 hS, h5]
  by_cases z1 : 0 < q
  · rw [if_pos ((nI_pos_iff (by omega)).mpr z1)]
    by_cases z2 : q < 9
    · rw [if_pos (show nI q < 9 from nI_lt (b := 9) z2 (by omega)), c53 hS h hp (by omega), ret1, s62_24 hS, h5, show nI q - 1 = nI (q - 1) from nI_sub (b := 1) (by omega), c53 hS h hp (by omega), ret1, s62_34 hS]
      have w1 := wordP_lt p q
      have w2 := wordP_lt p (q - 1)
      by_cases z3 : wordP p q = wordP p (q - 1)
      · rw [z3, if_pos rfl, bI_t ⟨z1, z2, rfl⟩]
      · rw [if_neg (fun z => z3 (nI_inj (by omega) (by omega) z)), bI_f (fun z => z3 z.2.2)]
    · rw [if_neg (show ¬ nI q < 9 from nI_nlt (b := 9) (by omega) (by omega)), bI_f (fun z => z2 z.2.1)]
  · rw [if_neg (fun z => z1 ((nI_pos_iff (by omega)).mp z)), bI_f (fun z => z1 z.1)]
theorem c61 {f : Nat} (hf : 0 < f) (hf6 : f < 6) (ho : ofN p.1 f) (hS : (SH L)[a]? = some (4, 7)) (h : plR mi a p w q e) (hp : okp p) (hd : day < 500) (hw : w < 100) (hq : q < 100) : Xm 61 [.ref a, .int (nI f), .int (nI day)] (SH L, mi, ml, MR) (d + 3) Q = Q (some (.int (markN p w q day f))) (SH L, mi, ml, MR) := by
  obtain ⟨k1, k2, k3, k4, k5⟩ := id hp
  rw [s61 hS, c52 hS h hp hd hw, ret1, s61_5 hS, h.2.2.1, c46 (by omega) (by omega) (by omega), ret1, s61_12 hS]
  rcases (by omega : f = 1 ∨ f = 2 ∨ f = 3 ∨ f = 4 ∨ f = 5) with rfl | rfl | rfl | rfl | rfl
  · rw [if_pos (by decide), c54 hS h hp hd hw, ret1, s61_49 hS]
    rfl
  · rw [if_neg (by decide), if_pos (by decide), c54 hS h hp hd hw, ret1, s61_58 hS]
    rfl
  · rw [if_neg (by decide), if_neg (by decide), if_pos (by decide), c55 hS h hp hd, ret1, s61_65 hS]
    have e3 : p.1 = 3 := by omega
    show _ = Q (some (.int (nI (day % 2)))) _
    rcases (by omega : day % 2 = 0 ∨ day % 2 = 1) with z | z
    · rw [bI_t (by omega), if_neg i1_ne0, z]
      rfl
    · rw [bI_f (by omega), if_pos rfl, z]
      rfl
  · rw [if_neg (by decide), if_neg (by decide), if_neg (by decide), if_pos (by decide)]
    refine (c53 (pod := 0) hS h hp (by omega)).trans ?_
    rw [ret1, s61_79 hS, h.2.2.2.1]
    refine (c48 (k := 1) (p := 0) (by omega) (by omega) (by omega)).trans ?_
    rw [ret1, s61_88 hS]
    rfl
  · rw [if_neg (by decide), if_neg (by decide), if_neg (by decide), if_neg (by decide), c62 hS h hp hq, ret1, s61_97 hS]
    show _ = Q (some (.int (againN p q))) _
    unfold againN
    rcases bI_or (p := 0 < q ∧ q < 9 ∧ wordP p q = wordP p (q - 1)) with z | z <;> rw [z] <;> rfl
/-! the model's numbers of today -/
def mgR (mi : Nat → Nat → Int32) (g : pG) : Prop := ∀ k, k < 15 → mi 77 k = nI (encN g k)
theorem mg_w {g : pG} (h : mgR mi g) (hi : i < 6) : mi 77 (0 + nI i).toNatClampNeg = nI (gW g i) := by
  rw [show (0 : Int32) = nI 0 from rfl, nI_add, Nat.zero_add, nI_clamp (by omega), h i (by omega)]
  unfold encN
  rw [if_pos hi]
theorem mg_p {g : pG} (h : mgR mi g) (hi : i < 6) : mi 77 (6 + nI i).toNatClampNeg = nI (gP g i) := by
  rw [show (6 : Int32) = nI 6 from rfl, nI_add, nI_clamp (by omega), h (6 + i) (by omega)]
  unfold encN
  rw [if_neg (by omega), if_pos (by omega), Nat.add_sub_cancel_left]
theorem mg_m {g : pG} (h : mgR mi g) : mi 77 (12 : Int32).toNatClampNeg = nI (maskN g.2.2.1 6) := h 12 (by omega)
theorem mg_d {g : pG} (h : mgR mi g) : mi 77 (13 : Int32).toNatClampNeg = nI (gD g) := h 13 (by omega)
theorem mg_l {g : pG} (h : mgR mi g) : mi 77 (14 : Int32).toNatClampNeg = nI (gL g) := h 14 (by omega)
theorem xin_w (hi : i < 6) : xin (0 + nI i) 15 = true := by rw [show (0 : Int32) = nI 0 from rfl, nI_add]; exact xin_nI (by omega) (by omega)
theorem xin_p (hi : i < 6) : xin (6 + nI i) 15 = true := by rw [show (6 : Int32) = nI 6 from rfl, nI_add]; exact xin_nI (by omega) (by omega)
theorem c178 {g : pG} (hi : i < 6) (hg : mgR mi g) (h : mpR mi i p) (hp : okp p) (hd : gD g < 500) (hw : gW g i < 100) : Xm 178 [.ref 68, .int (nI i)] (SH L, mi, ml, MR) (d + 2) Q = Q (some (.int (nI (ripeP p (gW g i) (gD g))))) (SH L, mi, ml, MR) := by
  rw [s178 (xin_w hi), mg_w hg hi, mg_d hg, c177 hi h hp hd hw, ret1, s178_20]
theorem c184 {f : Nat} {g : pG} (hf : f < 8) (hi : i < 6) (hg : mgR mi g) (h : mpR mi i p) (hp : okp p) (hd : gD g < 500) (hw : gW g i < 100) : Xm 184 [.ref 68, .int (nI i), .int (nI f)] (SH L, mi, ml, MR) (d + 3) Q = Q (some (.int (featN p (gW g i) (gP g i) (gE g i) (gD g) f))) (SH L, mi, ml, MR) := by
  obtain ⟨h0, h1, h2, h3⟩ := id h
  rw [s184 (fun _ => xin_nI hi (by omega)) (fun _ _ => xin_nI hi (by omega)) (fun _ _ _ => xin_nI hi (by omega)) (fun _ _ _ _ => xin_nI hi (by omega)) (fun _ _ _ _ _ => xin_w hi) (fun _ _ _ _ _ _ => xin_p hi), mg_w hg hi, mg_p hg hi, mg_m hg, nI_clamp (by omega), h0, h1, h2, h3, c178 hi hg h hp hd hw, ret1, s184_96, c150 hi, ret1, s184_108]
  rcases (by omega : f = 0 ∨ f = 1 ∨ f = 2 ∨ f = 3 ∨ f = 4 ∨ f = 5 ∨ f = 6 ∨ f = 7) with rfl | rfl | rfl | rfl | rfl | rfl | rfl | rfl
  · rfl
  · rfl
  · rfl
  · rfl
  · rfl
  · rfl
  · rfl
  · show (if bI (gE g i = true) = 0 then _ else _) = Q (some (.int (bI (gE g i = true)))) _
    cases gE g i <;> rfl
end PLANTS
theorem cG_pl {P : pP} {D : List Nat} {mi : Nat → Nat → Int32} (h : cG P D mi) {i : Nat} (hi : i < P.length) : plR mi (42 + i) (pl P i) (gW (rep P D) i) (gP (rep P D) i) (gE (rep P D) i) := h.2.2.2.2 i hi
theorem mG_pl {P : pP} {D : List Nat} {mi : Nat → Nat → Int32} (h : mG P D mi) {i : Nat} (hi : i < P.length) : mpR mi i (pl P i) := h.2.2.1 i hi
theorem mG_g {P : pP} {D : List Nat} {mi : Nat → Nat → Int32} (h : mG P D mi) : mgR mi (rep P D) := h.2.2.2.1
theorem op_word (x1 x2 : Int32) : OpI 111 187 [.int x1, .int x2] := op_of fun R T P D K S hok => by
  have hP := hok.1.1
  rcases num_cases x1 P.length (by omega) with hx | ⟨i, hi, rfl⟩
  · refine ex_ret (.int (-1)) ⟨_, rfl⟩ hok (fun L mi ml Q h k => ?_) (fun L mi ml Q h k => ?_)
    · rw [s111, c15_out h.2.2.1.1 hx, ret1, s111_8n]; exact k mi ml h sameM_rf
    · rw [s187, c172, ret1, h.2.2.1.1, bI_f (isP_out hP hx), s187_5, if_pos rfl]; exact k mi ml h sameC_rf
  rcases num_cases x2 9 (by omega) with hx | ⟨f, hf, rfl⟩
  · refine ex_ret (.int (-1)) ⟨_, rfl⟩ hok (fun L mi ml Q h k => ?_) (fun L mi ml Q h k => ?_)
    · rw [s111, c15_in hP h.2.2.1.1 hi, ret1, s111_8 (shPlant L (by omega)).1, c142_out hx, ret1, s111_17 (shPlant L (by omega)).1, if_pos rfl]; exact k mi ml h sameM_rf
    · rw [s187, c172, ret1, h.2.2.1.1, bI_t (isP_in hi hP), s187_5, if_neg i1_ne0, c173, ret1, bI_f (in_bad (n := 8) (by omega) hx), s187_12, if_pos rfl]; exact k mi ml h sameC_rf
  refine ex_ret (.int (nI (wordP (pl P i) f))) ⟨_, rfl⟩ hok (fun L mi ml Q h k => ?_) (fun L mi ml Q h k => ?_)
  · rw [s111, c15_in hP h.2.2.1.1 hi, ret1, s111_8 (shPlant L (by omega)).1, c142_in hf, ret1, s111_17 (shPlant L (by omega)).1, if_neg i1_ne0, c53 (shPlant L (by omega)).1 (cG_pl h.2.2.1 hi) (hok.1.2 i hi) (by omega), ret1, s111_29 (shPlant L (by omega)).1]; exact k mi ml h sameM_rf
  · rw [s187, c172, ret1, h.2.2.1.1, bI_t (isP_in hi hP), s187_5, if_neg i1_ne0, c173, ret1, bI_t (in_ok (n := 8) (by omega) (by omega)), s187_12, if_neg i1_ne0, c180 (by omega) (mG_pl h.2.2.1 hi) (hok.1.2 i hi) (by omega), ret1, s187_21]; exact k mi ml h sameC_rf
theorem op_plant (x1 x2 : Int32) : OpI 109 185 [.int x1, .int x2] := op_of fun R T P D K S hok => by
  have hP := hok.1.1
  have hD := hok.2.1.1
  rcases num_cases x1 P.length (by omega) with hx | ⟨i, hi, rfl⟩
  · refine ex_ret (.int (-1)) ⟨_, rfl⟩ hok (fun L mi ml Q h k => ?_) (fun L mi ml Q h k => ?_)
    · rw [s109, c15_out h.2.2.1.1 hx, ret1, s109_8n]; exact k mi ml h sameM_rf
    · rw [s185, c172, ret1, h.2.2.1.1, bI_f (isP_out hP hx), s185_5, if_pos rfl]; exact k mi ml h sameC_rf
  have hS := fun L => (shPlant L (i := i) (by omega)).1
  have hin : ∀ (f : Int32), (7 : Int64) = (nI 7).toInt64 ∧ (0 : Int64) = (0 : Int32).toInt64 := fun _ => ⟨rfl, rfl⟩
  rcases num_cases x2 8 (by omega) with hx | ⟨f, hf, rfl⟩
  · refine ex_ret (.int (-1)) ⟨_, rfl⟩ hok (fun L mi ml Q h k => ?_) (fun L mi ml Q h k => ?_)
    · rw [s109, c15_in hP h.2.2.1.1 hi, ret1, s109_8 (hS L)]
      by_cases h0 : x2 < 0
      · rw [if_pos h0]; exact k mi ml h sameM_rf
      · rw [if_neg h0, if_pos (show (7 : Int32) < x2 from by
          have := in_bad (n := 7) (by omega) hx
          exact Decidable.not_not.mp (fun z => this ⟨h0, z⟩))]
        exact k mi ml h sameM_rf
    · rw [s185, c172, ret1, h.2.2.1.1, bI_t (isP_in hi hP), s185_5, if_neg i1_ne0, (hin 0).1, (hin 0).2, c149, ret1, bI_f (in_bad (n := 7) (by omega) hx), s185_17, if_pos rfl]; exact k mi ml h sameC_rf
  have hb := rep_le P D
  have hb2 := hb.2 i
  refine ex_S (.int 1) (sTold (featN (pl P i) (gW (rep P D) i) (gP (rep P D) i) (gE (rep P D) i) (gD (rep P D)) f) S) ⟨_, rfl⟩ hok (fun L mi ml Q h k => ?_) (fun L mi ml Q h k => ?_)
  · rw [s109, c15_in hP h.2.2.1.1 hi, ret1, s109_8 (hS L), if_neg (nI_nneg (by omega)), if_neg (show ¬ (7 : Int32) < nI f from nI_nlt (a := 7) (by omega) (by omega)), s18, h.2.2.1.2.1, ret1, s109_35 (hS L), c60 hf (hS L) (cG_pl h.2.2.1 hi) (hok.1.2 i hi) (by omega) (by omega), ret1, s109_38 (hS L)]
    exact k _ _ (Cst_told hok.1.1 h).1 (Cst_told hok.1.1 h).2
  · rw [s185, c172, ret1, h.2.2.1.1, bI_t (isP_in hi hP), s185_5, if_neg i1_ne0, (hin 0).1, (hin 0).2, c149, ret1, bI_t (in_ok (n := 7) (by omega) (by omega)), s185_17, if_neg i1_ne0, c184 hf (by omega) (mG_g h.2.2.1) (mG_pl h.2.2.1 hi) (hok.1.2 i hi) (by omega) (by omega), ret1, s185_27, s153, ret1, s185_30]
    exact k _ _ (Mst_told h).1 (Mst_told h).2
