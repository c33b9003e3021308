/-! soundness: cells -/
def xnest : Cond → Bool
  | .fieldLinkNest _ _ _ _ _ _ => true
  | .methodLinkNest _ _ _ _ => true
  | _ => false
def xK (G : xP) (U : State) : Prop := va_K (xD G) vwCl (xtys G) U ∧ (∀ w ∈ lw_tbl, xnest w = true → va_Nw w U) ∧ va_AO RX9 U ∧ va_AO RX5 U
def xO (G : xP) (U : State) (H : Heap) : Prop := va_X (G.1 1) (G.1 3) G.2.1 U H ∧ va_Z "BeanVoices" "LETTERS" "[I" (.ref (G.1 2)) (xA G) U H ∧ va_T .int (G.1 2) 6 (fun j => .int (xlet.getD j 0)) (xA G) U H ∧ G.1 1 < G.1 0 ∧ G.1 0 ≤ H.size
def xCx (G : xP) (p : Program) (s : State) (m : MethodId) (args : Array Value) (meth : Method) (c : Code) (mid : Nat) : Prop :=
  p.tables.exec = Jvm.exec ∧ c.code = (xm mid).2.2.1 ∧ c.maxLocals = (xm mid).2.2.2.1 ∧ s.vm.findClass (xR (xm mid).1) = some m.cls ∧ (∀ w ∈ xGW, w.before args s = true) ∧ xK G s ∧ xO G s s.heap ∧ ((xm mid).2.1.name = "<init>" → meth.name = "<init>") ∧ mid < 242
theorem xgw {w : Cond} (h1 : w ∈ lw_tbl) (h2 : goodWord w = true) : w ∈ xGW := List.mem_filter.mpr ⟨h1, h2⟩
theorem xws_in {ci : Nat} (h : ci < 11) : ∀ w ∈ u_ws (xCi ci).1 (xCi ci).2.1 (xCi ci).2.2, w ∈ xGW := by
  intro w hw
  rw [xcl_N ci h] at hw
  have h1 := List.all_eq_true.mp xcl_in ci (List.mem_range.mpr h)
  have h2 := List.all_eq_true.mp h1 w hw
  simp only [Bool.and_eq_true, List.contains_iff_mem] at h2
  exact xgw h2.1 h2.2
theorem xFT_at {c i ci k q : Nat} {nest : Bool} (hi : i < 1000) (h : xFT.lookup (c * 1000 + i) = some (nest, ci, k, q)) : ci < 11 ∧ k < xN ci ∧ (if nest then Cond.fieldLinkNest (xR c) i ((xCi ci).2.1 k).1 ((xCi ci).2.1 k).2.1 ((xCi ci).2.1 k).2.2.1 "BeanVoices" ∈ lw_tbl else Cond.fieldLink (xR c) i ((xCi ci).2.1 k).1 ((xCi ci).2.1 k).2.1 ((xCi ci).2.1 k).2.2.1 ∈ xGW) := by
  have h1 := List.all_eq_true.mp xFT_ok _ (xlk_mem h)
  simp only [xkey1 c hi, xkey2 c hi, Bool.and_eq_true, decide_eq_true_eq] at h1
  obtain ⟨⟨h1, h2⟩, h3⟩ := h1
  refine ⟨h2, h3, ?_⟩
  cases nest with
  | true =>
    simp only [if_true, xfcond, xthere, decide_eq_true_eq] at h1 ⊢
    exact List.mem_of_getElem? h1
  | false =>
    simp only [Bool.false_eq_true, if_false, xfcond] at h1 ⊢
    have h4 := xgood_mem h1
    exact xgw h4.1 h4.2
section XHEAP
variable {p : Program} {l : Launch} {e : Env} {R : Room} {s : State} {m : MethodId} {args : Array Value} {below : List Frame} {meth : Method} {c : Code} {H : Heap} {locs : List Loc} {cells slots : Nat} {Q : State → Prop} {G : xP} {pc mid : Nat} {ls : Array Slot} {μ : xM} {rest : List Value}
theorem xW_size {g : JFrame} (k : H.size ≤ s.heap.size + cells → W p l e R s m args below meth c H locs cells slots Q g) : W p l e R s m args below meth c H locs cells slots Q g := fun T hT X => k (by rw [← hT]; exact X.heapSize) T hT X
theorem xobj (hR : xRel G μ H) {a ci n : Nat} (hci : ci < 11) (h : μ.1[a]? = some (ci, n)) : 2 ≤ a ∧ n = xN ci ∧ (xW G μ)[a - 2]? = some (xad G a, .inr (ci, (List.range (xN ci)).map fun k => xv G (xget ci k a μ))) := by
  have h2 : 2 ≤ a := by
    rcases Nat.lt_or_ge a 2 with h1 | h1
    · rcases (show a = 0 ∨ a = 1 by omega) with rfl | rfl
      · rw [hR.1] at h; cases h; omega
      · rw [hR.2.1] at h; cases h; omega
    · exact h1
  have hk := hR.2.2.1 a _ h2 h
  have hn : n = xN ci := by
    simp only [xok, Bool.or_eq_true, decide_eq_true_eq] at hk
    rcases hk with hk | hk
    · omega
    · exact hk.2
  refine ⟨h2, hn, ?_⟩
  rw [xW_get G μ h h2]
  subst hn
  unfold xE
  rw [if_neg (show ¬ ci = 100 by omega), if_neg (show ¬ ci = 101 by omega), if_neg (show ¬ ci = 102 by omega), if_neg (show ¬ ci = 103 by omega), if_neg (show ¬ ci = 104 by omega)]
theorem xget_sound (C : xCx G p s m args meth c mid) (hR : xRel G μ H) {i a ci k n q : Nat} {nest : Bool} (hi : i < 1000) (hlk : xFT.lookup ((xm mid).1 * 1000 + i) = some (nest, ci, k, q)) (hsh : μ.1[a]? = some (ci, n)) (hd : decode (xm mid).2.2.1 pc = .ok (.getfield i, 3))
    (kk : W p l e R s m args below meth c H locs cells slots Q (F0 m (pc + 3) ls (xv G (xget ci k a μ) :: rest))) : W p l e R s m args below meth c H locs cells slots Q (F0 m pc ls (.ref (xad G a) :: rest)) := by
  obtain ⟨hx, hb, -, hown, hts, hK, -⟩ := C
  obtain ⟨hci, hk, hlink⟩ := xFT_at hi hlk
  obtain ⟨h2, hn, hw⟩ := xobj hR hci hsh
  have hv : ((List.range (xN ci)).map fun k => xv G (xget ci k a μ))[k]? = some (xv G (xget ci k a μ)) := by
    rw [List.getElem?_map, List.getElem?_range hk]; rfl
  have hkN : k < (xCi ci).2.2 := by rw [xcl_N ci hci]; exact hk
  cases nest with
  | false => exact va_get (T := (xCi ci).2.1) (N := (xCi ci).2.2) hx hb hts (xws_in hci) hown hK.1 hR.2.2.2.2.2 _ hw (xcl_get hci) k hkN (hts _ hlink) (fun _ h => h) hv hd kk
  | true => exact va_getN (T := (xCi ci).2.1) (N := (xCi ci).2.2) hx hb hts (xws_in hci) hown hK.1 hR.2.2.2.2.2 _ hw (xcl_get hci) k hkN (va_Nw.use rfl (hK.2.1 _ hlink rfl)) (fun _ h => h) hv hd kk
/-- behind a write into one cell -/
theorem xRel_put {μ' : xM} {a : Nat} {sh : Nat × Nat} {H1 : Heap} {ee : va_E} (hR : xRel G μ H) (h2 : 2 ≤ a) (h : μ.1[a]? = some sh) (hs : μ'.1 = μ.1) (h1 : ∀ b j, b ≠ a → μ'.2.1 b j = μ.2.1 b j) (hl : ∀ b j, b ≠ a → μ'.2.2.1 b j = μ.2.2.1 b j) (hr : ∀ b j, b ≠ a → μ'.2.2.2 b j = μ.2.2.2 b j)
    (he : xE G μ' a sh = ee) (hP : va_P (xD G) vwCl ((xW G μ).set (a - 2) (xad G a, ee)) H1) : xRel G μ' H1 := by
  obtain ⟨r1, r2, r3, r4, r5, r6⟩ := hR
  refine ⟨by rw [hs]; exact r1, by rw [hs]; exact r2, by rw [hs]; exact r3, fun j => by rw [h1 0 j (by omega)]; exact r4 j, fun j hj => by rw [h1 1 j (by omega)]; exact r5 j hj, ?_⟩
  rw [xW_set G h h2 hs (fun b s hb => xE_o G (fun j => h1 b j hb) (fun j => hl b j hb) (fun j => hr b j hb) s), he]
  exact hP
theorem xput_E {μ' : xM} {ci k a : Nat} {v : Value} (hci : ci < 11) (hk : k < xN ci) (hv : xget ci k a μ' = v) (ho : ∀ j, j ≠ k → xget ci j a μ' = xget ci j a μ) : xE G μ' a (ci, xN ci) = .inr (ci, ((List.range (xN ci)).map fun k => xv G (xget ci k a μ)).set k (xv G v)) := by
  unfold xE
  rw [if_neg (show ¬ ci = 100 by omega), if_neg (show ¬ ci = 101 by omega), if_neg (show ¬ ci = 102 by omega), if_neg (show ¬ ci = 103 by omega), if_neg (show ¬ ci = 104 by omega)]
  congr 2
  apply List.ext_getElem?
  intro j
  rw [List.getElem?_set]
  by_cases hj : k = j
  · subst hj
    simp [List.getElem?_range hk, hv, hk]
  · rw [if_neg hj]
    simp only [List.getElem?_map]
    cases hc : (List.range (xN ci))[j]? with
    | none => rfl
    | some z =>
      have hz : z = j := by
        have hlt := (List.getElem?_eq_some_iff.mp hc).1
        rw [List.length_range] at hlt
        rw [List.getElem?_range hlt] at hc
        exact (Option.some.inj hc).symm
      subst hz
      simp only [Option.map_some]
      rw [ho _ (fun e => hj e.symm)]
theorem xput_sound (C : xCx G p s m args meth c mid) (hR : xRel G μ H) (hS : va_S (xA G) s.heap H locs) {i a ci k n q : Nat} {nest : Bool} {v : Value} {μ' : xM} (hi : i < 1000) (hlk : xFT.lookup ((xm mid).1 * 1000 + i) = some (nest, ci, k, q)) (hsh : μ.1[a]? = some (ci, n)) (hd : decode (xm mid).2.2.1 pc = .ok (.putfield i, 3))
    (hp : xput (decide ((xm mid).2.1.name = "<init>") && decide (ci = xci (xm mid).1) && !nest) ci k a v μ = some μ') (hc16 : (xm mid).1 < 16)
    (kk : ∀ (H1 : Heap) (locs1 : List Loc), xRel G μ' H1 → va_S (xA G) s.heap H1 locs1 → μ'.1 = μ.1 → W p l e R s m args below meth c H1 locs1 cells slots Q (F0 m (pc + 3) ls rest)) : W p l e R s m args below meth c H locs cells slots Q (F0 m pc ls (xv G v :: .ref (xad G a) :: rest)) := by
  obtain ⟨hx, hb, -, hown, hts, hK, -, hnm, -⟩ := C
  obtain ⟨hci, hk, hlink⟩ := xFT_at hi hlk
  obtain ⟨h2, hn, hw⟩ := xobj hR hci hsh
  subst hn
  have hkN : k < (xCi ci).2.2 := by rw [xcl_N ci hci]; exact hk
  have hty : ∀ k, k < (xCi ci).2.2 → parseFieldDescriptor ((xCi ci).2.1 k).2.2.1 = some (xTy ci k) := by rw [xcl_N ci hci]; exact xcl_ty0 ci hci
  have hnmz : ∀ a, a < (xCi ci).2.2 → ∀ b, b < (xCi ci).2.2 → a ≠ b → ((xCi ci).2.1 a).2.1 ≠ ((xCi ci).2.1 b).2.1 := by rw [xcl_N ci hci]; exact xcl_nm ci hci
  have hlen : k < ((List.range (xN ci)).map fun k => xv G (xget ci k a μ)).length := by simpa using hk
  have fin : ∀ (H1 : Heap) (locs1 : List Loc), μ'.1 = μ.1 → (∀ b j, b ≠ a → μ'.2.1 b j = μ.2.1 b j) → (∀ b j, b ≠ a → μ'.2.2.1 b j = μ.2.2.1 b j) → (∀ b j, b ≠ a → μ'.2.2.2 b j = μ.2.2.2 b j) → xget ci k a μ' = v → (∀ j, j ≠ k → xget ci j a μ' = xget ci j a μ) →
      va_P (xD G) vwCl ((xW G μ).set (a - 2) (xad G a, .inr (ci, ((List.range (xN ci)).map fun k => xv G (xget ci k a μ)).set k (xv G v)))) H1 → va_S (xA G) s.heap H1 locs1 → W p l e R s m args below meth c H1 locs1 cells slots Q (F0 m (pc + 3) ls rest) := by
    intro H1 locs1 q1 q2 q3 q4 q5 q6 hP hS1
    exact kk H1 locs1 (xRel_put hR h2 hsh q1 q2 q3 q4 (xput_E hci hk q5 q6) hP) hS1 q1
  have nonfin : ((xCi ci).2.1 k).2.2.2 = false → narrow (xTy ci k) (xv G v) = xv G v → fits (xTy ci k) (xv G v) = true → μ'.1 = μ.1 → (∀ b j, b ≠ a → μ'.2.1 b j = μ.2.1 b j) → (∀ b j, b ≠ a → μ'.2.2.1 b j = μ.2.2.1 b j) → (∀ b j, b ≠ a → μ'.2.2.2 b j = μ.2.2.2 b j) → xget ci k a μ' = v → (∀ j, j ≠ k → xget ci j a μ' = xget ci j a μ) → W p l e R s m args below meth c H locs cells slots Q (F0 m pc ls (xv G v :: .ref (xad G a) :: rest)) := by
    intro hf hn hfit q1 q2 q3 q4 q5 q6
    cases nest with
    | false => exact va_put (T := (xCi ci).2.1) (N := (xCi ci).2.2) hx hb hts (xws_in hci) (xTy ci) hty hnmz hown hK.1 hR.2.2.2.2.2 (xW_D G μ) hS _ hw (xcl_get hci) k hkN (hts _ hlink) (fun _ h => h) hf (hty k hkN) hn hfit hlen hd (fun H1 locs1 hP _ hS1 => fin H1 locs1 q1 q2 q3 q4 q5 q6 hP hS1)
    | true => exact va_putN (T := (xCi ci).2.1) (N := (xCi ci).2.2) hx hb hts (xws_in hci) (xTy ci) hty hnmz hown hK.1 hR.2.2.2.2.2 (xW_D G μ) hS _ hw (xcl_get hci) k hkN (va_Nw.use rfl (hK.2.1 _ hlink rfl)) (fun _ h => h) hf (hty k hkN) hn hfit hlen hd (fun H1 locs1 hP _ hS1 => fin H1 locs1 q1 q2 q3 q4 q5 q6 hP hS1)
  unfold xput at hp
  rcases xcl_code ci hci k hk with ⟨t1, t2, t3⟩ | ⟨t1, t2, t3⟩ | ⟨t1, t2, t3, t4⟩ | ⟨t1, t2, t3⟩
  · rw [t1] at hp
    cases v with
    | int x =>
      cases hp
      refine nonfin t3 (by rw [t2]; rfl) (by rw [t2]; rfl) rfl (fun b j hb => xw_ne hb j) (fun _ _ _ => rfl) (fun _ _ _ => rfl) (by simp [xget, t1, xw_eq]) (fun j hj => ?_)
      simp only [xget, xw_eq, if_neg hj]
    | _ => cases hp
  · rw [t1] at hp
    cases v with
    | long x =>
      cases hp
      refine nonfin t3 (by rw [t2]; rfl) (by rw [t2]; rfl) rfl (fun _ _ _ => rfl) (fun b j hb => xw_ne hb j) (fun _ _ _ => rfl) (by simp [xget, t1, xw_eq]) (fun j hj => ?_)
      simp only [xget, xw_eq, if_neg hj]
    | _ => cases hp
  · rw [t1] at hp
    cases v with
    | ref x =>
      simp only at hp
      split at hp
      · rename_i hini
        cases hp
        simp only [Bool.and_eq_true, decide_eq_true_eq, Bool.not_eq_true'] at hini
        obtain ⟨⟨i1, i2⟩, rfl⟩ := hini
        refine va_putF (T := (xCi ci).2.1) (N := (xCi ci).2.2) hx hb hts (xws_in hci) (xTy ci) hty hnmz hown hK.1 hR.2.2.2.2.2 (xW_D G μ) hS _ hw (xcl_get hci) k hkN (hts _ hlink) (fun _ h => h) t3 (hnm i1) (by rw [t4, i2]; exact xcl_own _ hc16 (by rw [← i2]; exact hci)) (hty k hkN) ?_ ?_ hlen hd (fun H1 locs1 hP _ hS1 => fin H1 locs1 rfl (fun _ _ _ => rfl) (fun _ _ _ => rfl) (fun b j hb => xw_ne hb j) ?_ (fun j hj => ?_) hP hS1)
        · cases hq : xTy ci k <;> rw [hq] at t2 <;> first | rfl | (simp [refKind] at t2)
        · cases hq : xTy ci k <;> rw [hq] at t2 <;> first | rfl | (simp [refKind] at t2)
        · simp [xget, t1, xw_eq, va_rf]
        · simp only [xget, xw_eq, if_neg hj]
      · cases hp
    | _ => cases hp
  · rw [t1] at hp
    cases v with
    | int x =>
      simp only at hp
      split at hp
      · rename_i hx01
        cases hp
        refine nonfin t3 (by rw [t2]; rcases hx01 with rfl | rfl <;> rfl) (by rw [t2]; rcases hx01 with rfl | rfl <;> rfl) rfl (fun b j hb => xw_ne hb j) (fun _ _ _ => rfl) (fun _ _ _ => rfl) (by simp [xget, t1, xw_eq]) (fun j hj => ?_)
        simp only [xget, xw_eq, if_neg hj]
      · cases hp
    | _ => cases hp
end XHEAP
