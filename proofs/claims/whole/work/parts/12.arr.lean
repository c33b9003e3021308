/-! soundness: arrays, new cells -/
theorem xST_ok : (xST.all fun e => e.2.1 && xthere (.fieldLinkNest (xR (e.1 / 1000)) (e.1 % 1000) "BeanVoices" "LETTERS" "[I" "BeanVoices") e.2.2) = true := by decide +kernel
theorem xCT_at {c i ci q : Nat} (hi : i < 1000) (h : xCT.lookup (c * 1000 + i) = some (ci, q)) : ci < 11 ∧ Cond.classLink (xR c) i (xCi ci).1 ∈ xGW := by
  have h1 := List.all_eq_true.mp xCT_ok _ (xlk_mem h)
  simp only [xkey1 c hi, xkey2 c hi, Bool.and_eq_true, decide_eq_true_eq] at h1
  have h4 := xgood_mem h1.1
  exact ⟨h1.2, xgw h4.1 h4.2⟩
theorem xnew_in {ci : Nat} (h : ci < 11) : Cond.instantiable (xCi ci).1 (xN ci) ∈ xGW ∧ Cond.initialized (xCi ci).1 ∈ xGW := by
  have h1 := List.all_eq_true.mp xcl_new ci (List.mem_range.mpr h)
  simp only [Bool.and_eq_true, List.contains_iff_mem] at h1
  exact ⟨xgw h1.1.1.1 h1.1.1.2, xgw h1.1.2 h1.2⟩
theorem xarr_in : Cond.arrayClass .int ∈ xGW ∧ Cond.arrayClass .long ∈ xGW ∧ Cond.arrayClass .boolean ∈ xGW ∧ Cond.arrayOver (.object RX9) ∈ lw_tbl ∧ Cond.arrayOver (.object RX5) ∈ lw_tbl ∧ Cond.native arraycopyName ∈ xGW ∧ Cond.static arraycopyName ∈ xGW ∧ Cond.initialized "java/lang/System" ∈ xGW := by
  have h1 := xarr
  simp only [Bool.and_eq_true, List.contains_iff_mem] at h1
  obtain ⟨⟨⟨⟨⟨⟨⟨⟨⟨⟨⟨⟨⟨a1, a2⟩, a3⟩, a4⟩, a5⟩, a6⟩, a7⟩, a8⟩, a9⟩, b1⟩, b2⟩, b3⟩, b4⟩, b5⟩ := h1
  exact ⟨xgw a1 a2, xgw a3 a4, xgw a5 a6, a7, a8, xgw a9 b1, xgw b2 b3, xgw b4 b5⟩
def xns (μ : xM) : Nat := (μ.1.map fun s => s.2).sum
theorem xns_make (s : Nat × Nat) (μ : xM) : xns (xmake s μ) = xns μ + s.2 := by simp [xns, xmake]
theorem xlen_make (s : Nat × Nat) (μ : xM) : (xmake s μ).1.length = μ.1.length + 1 := by simp [xmake]
section XARR
variable {p : Program} {l : Launch} {e : Env} {R : Room} {s : State} {m : MethodId} {args : Array Value} {below : List Frame} {meth : Method} {c : Code} {H : Heap} {locs : List Loc} {cells slots : Nat} {Q : State → Prop} {G : xP} {pc mid : Nat} {ls : Array Slot} {μ : xM} {rest : List Value}
theorem xinp {i : Int32} {n : Nat} (h : xin i n = true) : vp_in i n := by
  intro hh
  simp only [xin, Bool.not_eq_true', Bool.or_eq_false_iff, decide_eq_false_iff_not] at h
  exact hh.elim h.1 h.2
theorem xarrW (hR : xRel G μ H) {a kd n : Nat} (h : μ.1[a]? = some (kd, n)) (hk : kd ≠ 105) : 2 ≤ a ∧ (xW G μ)[a - 2]? = some (xad G a, xE G μ a (kd, n)) := by
  have h2 : 2 ≤ a := by
    rcases Nat.lt_or_ge a 2 with h1 | h1
    · rcases (show a = 0 ∨ a = 1 by omega) with rfl | rfl
      · rw [hR.1] at h; cases h; omega
      · rw [hR.2.1] at h; cases h; omega
    · exact h1
  exact ⟨h2, xW_get G μ h h2⟩
theorem xext (hR : xRel G μ H) {a n : Nat} (h : μ.1[a]? = some (105, n)) : (a = 0 ∧ n = G.1 3) ∨ (a = 1 ∧ n = 6) := by
  rcases Nat.lt_or_ge a 2 with h1 | h1
  · rcases (show a = 0 ∨ a = 1 by omega) with rfl | rfl
    · rw [hR.1] at h; cases h; exact Or.inl ⟨rfl, rfl⟩
    · rw [hR.2.1] at h; cases h; exact Or.inr ⟨rfl, rfl⟩
  · have := hR.2.2.1 a _ h1 h
    simp [xok] at this
theorem xialoadS (C : xCx G p s m args meth c mid) (hR : xRel G μ H) (hS : va_S (xA G) s.heap H locs) {a kd n : Nat} {i : Int32} (hsh : μ.1[a]? = some (kd, n)) (hk : kd = 100 ∨ kd = 105) (hin : xin i n = true) (hd : decode (xm mid).2.2.1 pc = .ok (.iaload, 1))
    (kk : W p l e R s m args below meth c H locs cells slots Q (F0 m (pc + 1) ls (.int (μ.2.1 a i.toNatClampNeg) :: rest))) : W p l e R s m args below meth c H locs cells slots Q (F0 m pc ls (.int i :: .ref (xad G a) :: rest)) := by
  obtain ⟨hx, hb, -, hown, hts, hK, hO, -⟩ := C
  rcases hk with rfl | rfl
  · obtain ⟨h2, hw⟩ := xarrW hR hsh (by omega)
    exact va_iald hx hb hK.1 hR.2.2.2.2.2 (a - 2) 0 (f := μ.2.1 a) hw rfl (xinp hin) hd kk
  · rcases xext hR hsh with ⟨rfl, rfl⟩ | ⟨rfl, rfl⟩
    · rw [hR.2.2.2.1] at kk
      exact va_sld hx hb hO.1 (Nat.lt_of_lt_of_le hO.2.2.2.1 hO.2.2.2.2) (show ¬ xA G (G.1 1) from Nat.not_le.mpr hO.2.2.2.1) hS (xinp hin) hd kk
    · have hlt : i.toNatClampNeg < 6 := Nat.not_le.mp fun q => (xinp hin) (Or.inr q)
      rw [hR.2.2.2.2.1 _ hlt] at kk
      exact va_ti hx hb hO.2.2.1 hS (xinp hin) rfl hd kk
theorem xalenS (C : xCx G p s m args meth c mid) (hR : xRel G μ H) (hS : va_S (xA G) s.heap H locs) {a kd n : Nat} (hsh : μ.1[a]? = some (kd, n)) (hk : 100 ≤ kd) (hd : decode (xm mid).2.2.1 pc = .ok (.arraylength, 1))
    (kk : W p l e R s m args below meth c H locs cells slots Q (F0 m (pc + 1) ls (.int (Int32.ofNat n) :: rest))) : W p l e R s m args below meth c H locs cells slots Q (F0 m pc ls (.ref (xad G a) :: rest)) := by
  obtain ⟨hx, hb, -, hown, hts, hK, hO, -⟩ := C
  by_cases h5 : kd = 105
  · subst h5
    rcases xext hR hsh with ⟨rfl, rfl⟩ | ⟨rfl, rfl⟩
    · exact va_slen hx hb hO.1 (Nat.lt_of_lt_of_le hO.2.2.2.1 hO.2.2.2.2) (show ¬ xA G (G.1 1) from Nat.not_le.mpr hO.2.2.2.1) hS hd kk
    · exact va_tlen hx hb hO.2.2.1 hS rfl hd kk
  · obtain ⟨h2, hw⟩ := xarrW hR hsh h5
    have hk2 := hR.2.2.1 a _ h2 hsh
    simp only [xok, Bool.or_eq_true, decide_eq_true_eq] at hk2
    rcases (show kd = 100 ∨ kd = 101 ∨ kd = 102 ∨ kd = 103 ∨ kd = 104 by omega) with rfl | rfl | rfl | rfl | rfl
    · exact va_alen hx hb hK.1 hR.2.2.2.2.2 (a - 2) 0 hw rfl rfl hd kk
    · exact va_alen hx hb hK.1 hR.2.2.2.2.2 (a - 2) 1 hw rfl rfl hd kk
    · exact va_alen hx hb hK.1 hR.2.2.2.2.2 (a - 2) 2 hw rfl rfl hd kk
    · exact va_alen hx hb hK.1 hR.2.2.2.2.2 (a - 2) 3 hw rfl rfl hd kk
    · exact va_alen hx hb hK.1 hR.2.2.2.2.2 (a - 2) 4 hw rfl rfl hd kk
theorem xiastoreS (C : xCx G p s m args meth c mid) (hR : xRel G μ H) (hS : va_S (xA G) s.heap H locs) {a n : Nat} {i x : Int32} (hsh : μ.1[a]? = some (100, n)) (hin : xin i n = true) (hd : decode (xm mid).2.2.1 pc = .ok (.iastore, 1))
    (kk : ∀ (H1 : Heap) (locs1 : List Loc), xRel G (μ.1, xw μ.2.1 a i.toNatClampNeg x, μ.2.2.1, μ.2.2.2) H1 → va_S (xA G) s.heap H1 locs1 → W p l e R s m args below meth c H1 locs1 cells slots Q (F0 m (pc + 1) ls rest)) : W p l e R s m args below meth c H locs cells slots Q (F0 m pc ls (.int x :: .int i :: .ref (xad G a) :: rest)) := by
  obtain ⟨hx, hb, -, hown, hts, hK, hO, -⟩ := C
  obtain ⟨h2, hw⟩ := xarrW hR hsh (by omega)
  refine va_iast hx hb hK.1 hR.2.2.2.2.2 (xW_D G μ) hS (a - 2) 0 (f := μ.2.1 a) hw rfl (xinp hin) hd (fun H1 locs1 hP1 _ hS1 => kk H1 locs1 (xRel_put hR h2 hsh rfl (fun b j hb => xw_ne hb j) (fun _ _ _ => rfl) (fun _ _ _ => rfl) ?_ hP1) hS1)
  have e : xw μ.2.1 a i.toNatClampNeg x a = upd (μ.2.1 a) i.toNatClampNeg x := funext fun j => xw_eq j
  show (Sum.inl (G.2.2.1 100, n, Sum.inl (xw μ.2.1 a i.toNatClampNeg x a)) : va_E) = _
  rw [e]
theorem xbastoreS (C : xCx G p s m args meth c mid) (hR : xRel G μ H) (hS : va_S (xA G) s.heap H locs) {a n : Nat} {i x : Int32} (hsh : μ.1[a]? = some (102, n)) (hin : xin i n = true) (hx01 : x = 0 ∨ x = 1) (hd : decode (xm mid).2.2.1 pc = .ok (.bastore, 1))
    (kk : ∀ (H1 : Heap) (locs1 : List Loc), xRel G (μ.1, xw μ.2.1 a i.toNatClampNeg x, μ.2.2.1, μ.2.2.2) H1 → va_S (xA G) s.heap H1 locs1 → W p l e R s m args below meth c H1 locs1 cells slots Q (F0 m (pc + 1) ls rest)) : W p l e R s m args below meth c H locs cells slots Q (F0 m pc ls (.int x :: .int i :: .ref (xad G a) :: rest)) := by
  obtain ⟨hx, hb, -, hown, hts, hK, hO, -⟩ := C
  obtain ⟨h2, hw⟩ := xarrW hR hsh (by omega)
  refine va_zast hx hb hK.1 hR.2.2.2.2.2 (xW_D G μ) hS (a - 2) 2 (f := μ.2.1 a) hw rfl (xinp hin) hd (fun H1 locs1 hP1 _ hS1 => kk H1 locs1 (xRel_put hR h2 hsh rfl (fun b j hb => xw_ne hb j) (fun _ _ _ => rfl) (fun _ _ _ => rfl) ?_ hP1) hS1)
  have hn : vp_nar .boolean x = x := by rcases hx01 with rfl | rfl <;> rfl
  have e : xw μ.2.1 a i.toNatClampNeg x a = upd (μ.2.1 a) i.toNatClampNeg x := funext fun j => xw_eq j
  show (Sum.inl (G.2.2.1 102, n, Sum.inl (xw μ.2.1 a i.toNatClampNeg x a)) : va_E) = _
  rw [e, hn]
theorem xlastoreS (C : xCx G p s m args meth c mid) (hR : xRel G μ H) (hS : va_S (xA G) s.heap H locs) {a n : Nat} {i : Int32} {x : Int64} (hsh : μ.1[a]? = some (101, n)) (hin : xin i n = true) (hd : decode (xm mid).2.2.1 pc = .ok (.lastore, 1))
    (kk : ∀ (H1 : Heap) (locs1 : List Loc), xRel G (μ.1, μ.2.1, xw μ.2.2.1 a i.toNatClampNeg x, μ.2.2.2) H1 → va_S (xA G) s.heap H1 locs1 → W p l e R s m args below meth c H1 locs1 cells slots Q (F0 m (pc + 1) ls rest)) : W p l e R s m args below meth c H locs cells slots Q (F0 m pc ls (.long x :: .int i :: .ref (xad G a) :: rest)) := by
  obtain ⟨hx, hb, -, hown, hts, hK, hO, -⟩ := C
  obtain ⟨h2, hw⟩ := xarrW hR hsh (by omega)
  refine va_last hx hb hK.1 hR.2.2.2.2.2 (xW_D G μ) hS (a - 2) 1 (f := μ.2.2.1 a) hw rfl (xinp hin) hd (fun H1 locs1 hP1 _ hS1 => kk H1 locs1 (xRel_put hR h2 hsh rfl (fun _ _ _ => rfl) (fun b j hb => xw_ne hb j) (fun _ _ _ => rfl) ?_ hP1) hS1)
  have e : xw μ.2.2.1 a i.toNatClampNeg x a = vp_updL (μ.2.2.1 a) i.toNatClampNeg x := funext fun j => xw_eq j
  show (Sum.inl (G.2.2.1 101, n, Sum.inr (Sum.inl (xw μ.2.2.1 a i.toNatClampNeg x a))) : va_E) = _
  rw [e]
theorem xaastoreS (C : xCx G p s m args meth c mid) (hR : xRel G μ H) (hS : va_S (xA G) s.heap H locs) {a n v n2 kd ci : Nat} {i : Int32} (hsh : μ.1[a]? = some (kd, n)) (hv : μ.1[v]? = some (ci, n2)) (hk : kd = 103 ∧ ci = 8 ∨ kd = 104 ∧ ci = 4) (hin : xin i n = true) (hd : decode (xm mid).2.2.1 pc = .ok (.aastore, 1))
    (kk : ∀ (H1 : Heap) (locs1 : List Loc), xRel G (μ.1, μ.2.1, μ.2.2.1, xw μ.2.2.2 a i.toNatClampNeg (some v)) H1 → va_S (xA G) s.heap H1 locs1 → W p l e R s m args below meth c H1 locs1 cells slots Q (F0 m (pc + 1) ls rest)) : W p l e R s m args below meth c H locs cells slots Q (F0 m pc ls (.ref (xad G v) :: .int i :: .ref (xad G a) :: rest)) := by
  obtain ⟨hx, hb, -, hown, hts, hK, hO, -⟩ := C
  have e : (fun j => (xw μ.2.2.2 a i.toNatClampNeg (some v) a j).map (xad G)) = va_up (fun j => (μ.2.2.2 a j).map (xad G)) i.toNatClampNeg (some (xad G v)) := by
    funext j
    rw [xw_eq]
    unfold va_up
    split <;> rfl
  rcases hk with ⟨rfl, rfl⟩ | ⟨rfl, rfl⟩
  · obtain ⟨h2, hw⟩ := xarrW hR hsh (by omega)
    obtain ⟨h3, -, hw2⟩ := xobj hR (by omega) hv
    refine va_astq hx hb hK.1 hR.2.2.2.2.2 (xW_D G μ) hS (a - 2) 3 (v - 2) 8 (f := fun j => (μ.2.2.2 a j).map (xad G)) (r := xCi 8) hw rfl hw2 (xcl_get (by omega)) (xinp hin) hd (fun H1 locs1 hP1 _ hS1 => kk H1 locs1 (xRel_put hR h2 hsh rfl (fun _ _ _ => rfl) (fun _ _ _ => rfl) (fun b j hb => xw_ne hb j) ?_ hP1) hS1)
    show (Sum.inl (G.2.2.1 103, n, Sum.inr (Sum.inr (Sum.inr (Sum.inr (fun j => (xw μ.2.2.2 a i.toNatClampNeg (some v) a j).map (xad G)))))) : va_E) = _
    rw [e]
  · obtain ⟨h2, hw⟩ := xarrW hR hsh (by omega)
    obtain ⟨h3, -, hw2⟩ := xobj hR (by omega) hv
    refine va_astq hx hb hK.1 hR.2.2.2.2.2 (xW_D G μ) hS (a - 2) 4 (v - 2) 4 (f := fun j => (μ.2.2.2 a j).map (xad G)) (r := xCi 4) hw rfl hw2 (xcl_get (by omega)) (xinp hin) hd (fun H1 locs1 hP1 _ hS1 => kk H1 locs1 (xRel_put hR h2 hsh rfl (fun _ _ _ => rfl) (fun _ _ _ => rfl) (fun b j hb => xw_ne hb j) ?_ hP1) hS1)
    show (Sum.inl (G.2.2.1 104, n, Sum.inr (Sum.inr (Sum.inr (Sum.inr (fun j => (xw μ.2.2.2 a i.toNatClampNeg (some v) a j).map (xad G)))))) : va_E) = _
    rw [e]
/-- where the next cell will lie -/
theorem xsize (hR : xRel G μ H) (hS : va_S (xA G) s.heap H locs) (hN : s.heap.size + cells = G.1 0 + (μ.1.length - 2)) (hB : G.1 0 ≤ s.heap.size) (h : H.size ≤ s.heap.size + cells) : H.size = G.1 0 + (μ.1.length - 2) := by
  rcases Nat.eq_zero_or_pos (μ.1.length - 2) with h0 | h0
  · have := hS.1
    omega
  · have hl : (xW G μ)[μ.1.length - 2 - 1]? = some (G.1 0 + (μ.1.length - 2 - 1), xE G μ (μ.1.length - 2 - 1 + 2) (μ.1.getD (μ.1.length - 2 - 1 + 2) (0, 0))) := by
      simp only [xW, List.getElem?_map, List.getElem?_range (show μ.1.length - 2 - 1 < μ.1.length - 2 by omega), Option.map_some]
    have := (hR.2.2.2.2.2 _ _ hl).lt
    simp only at this
    omega
theorem xmake_rel (hR : xRel G μ H) (h2 : 2 ≤ μ.1.length) {H1 : Heap} {sh : Nat × Nat} (hsz : H.size = G.1 0 + (μ.1.length - 2)) (hok : xok sh = true) (ho : ∀ q, q < H.size → H1[q]? = H[q]?) (hat : va_at (xD G) vwCl (G.1 0 + (μ.1.length - 2), xE G (xmake sh μ) μ.1.length sh) H1) : xRel G (xmake sh μ) H1 := by
  obtain ⟨r1, r2, r3, r4, r5, r6⟩ := hR
  have hlt : ∀ {a : Nat} {q : Nat × Nat}, μ.1[a]? = some q → (xmake sh μ).1[a]? = some q := by
    intro a q h
    simp only [xmake]
    rw [List.getElem?_append_left (List.getElem?_eq_some_iff.mp h).1]
    exact h
  refine ⟨hlt r1, hlt r2, fun a s ha hs => ?_, fun j => ?_, fun j hj => ?_, ?_⟩
  · simp only [xmake] at hs
    by_cases hb : a < μ.1.length
    · rw [List.getElem?_append_left hb] at hs
      exact r3 a s ha hs
    · rw [List.getElem?_append_right (by omega)] at hs
      have h0 : a - μ.1.length < 1 := (List.getElem?_eq_some_iff.mp hs).1
      rw [show a - μ.1.length = 0 by omega] at hs
      cases hs
      exact hok
  · simp only [xmake]; rw [xz_ne (by omega)]; exact r4 j
  · simp only [xmake]; rw [xz_ne (by omega)]; exact r5 j hj
  · rw [xW_make G μ sh h2]
    refine (r6.kept (fun k x hx => ho x.1 ((r6 k x hx).lt))).app (fun k x hx => ?_)
    have h0 : k < 1 := (List.getElem?_eq_some_iff.mp hx).1
    rw [show k = 0 by omega] at hx
    cases hx
    exact hat
theorem xS_push {H1 : Heap} (hS : va_S (xA G) s.heap H locs) (hz : H1.size = H.size + 1) (ho : ∀ q, q < H.size → H1[q]? = H[q]?) : va_S (xA G) s.heap H1 locs :=
  ⟨Nat.le_trans hS.1 (by omega), fun x h1 h2 => (ho x (Nat.lt_of_lt_of_le h1 hS.1)).trans (hS.2.1 x h1 h2), hS.2.2⟩
theorem xnewS (C : xCx G p s m args meth c mid) (hR : xRel G μ H) (hS : va_S (xA G) s.heap H locs) (hN : s.heap.size + cells = G.1 0 + (μ.1.length - 2)) (h2 : 2 ≤ μ.1.length) {i ci q : Nat} (hi : i < 1000) (hlk : xCT.lookup ((xm mid).1 * 1000 + i) = some (ci, q)) (hd : decode (xm mid).2.2.1 pc = .ok (.new i, 3)) (hc : cells + 1 ≤ R.cells) (hsl : slots + xN ci ≤ R.slots)
    (kk : ∀ (H1 : Heap), xRel G (xmake (ci, xN ci) μ) H1 → va_S (xA G) s.heap H1 locs → W p l e R s m args below meth c H1 locs (cells + 1) (slots + xN ci) Q (F0 m (pc + 3) ls (.ref (xad G μ.1.length) :: rest))) : W p l e R s m args below meth c H locs cells slots Q (F0 m pc ls rest) := by
  refine xW_size fun hle => ?_
  obtain ⟨hx, hb, -, hown, hts, hK, hO, -⟩ := C
  have hsz := xsize hR hS hN hO.2.2.2.2 hle
  obtain ⟨hci, hlink⟩ := xCT_at hi hlk
  have hKn := hK.1.1 ci _ (xcl_get hci)
  refine W.newcK hx hb hown (hts _ hlink) (hts _ (xnew_in hci).1) (hts _ (xnew_in hci).2) rfl hd hc hsl hKn.2.1 rfl fun H1 kC hkC e1 z1 o1 => ?_
  have hk := kk H1 (xmake_rel hR h2 hsz (by simp [xok, xN, hci]) o1 ?_) (xS_push hS z1 o1)
  · rw [xad_ge G h2, ← hsz] at hk
    exact hk
  · have hfs : ∀ j, j < (xCi ci).2.2 → defaultValue (xTy ci j) = vp_V ((List.range (xN ci)).map fun k => xv G (xget ci k μ.1.length (xmake (ci, xN ci) μ))) j := by
      intro j hj
      rw [xcl_N ci hci] at hj
      simp only [vp_V, List.getD, List.getElem?_map, List.getElem?_range hj, Option.map_some, Option.getD_some]
      rcases xcl_code ci hci j hj with ⟨t1, t2, t3⟩ | ⟨t1, t2, t3⟩ | ⟨t1, t2, t3, t4⟩ | ⟨t1, t2, t3⟩
      · rw [t2]; simp [xget, t1, xmake, xz, xv, defaultValue]
      · rw [t2]; simp [xget, t1, xmake, xz, xv, defaultValue]
      · cases hq : xTy ci j <;> rw [hq] at t2 <;> first | (simp [xget, t1, xmake, xz, xv, va_rf, defaultValue]; done) | (simp [refKind] at t2)
      · rw [t2]; simp [xget, t1, xmake, xz, xv, defaultValue]
    have hE : xE G (xmake (ci, xN ci) μ) μ.1.length (ci, xN ci) = .inr (ci, (List.range (xN ci)).map fun k => xv G (xget ci k μ.1.length (xmake (ci, xN ci) μ))) := by
      unfold xE
      rw [if_neg (show ¬ ci = 100 by omega), if_neg (show ¬ ci = 101 by omega), if_neg (show ¬ ci = 102 by omega), if_neg (show ¬ ci = 103 by omega), if_neg (show ¬ ci = 104 by omega)]
    rw [hE, ← hsz]
    have hty : ∀ k, k < (xCi ci).2.2 → parseFieldDescriptor ((xCi ci).2.1 k).2.2.1 = some (xTy ci k) := by rw [xcl_N ci hci]; exact xcl_ty0 ci hci
    exact ⟨_, xcl_get hci, (u_born (xTy ci) hts (xws_in hci) hKn hkC e1 hty).to hfs⟩
theorem xnewaS (C : xCx G p s m args meth c mid) (hR : xRel G μ H) (hS : va_S (xA G) s.heap H locs) (hN : s.heap.size + cells = G.1 0 + (μ.1.length - 2)) (h2 : 2 ≤ μ.1.length) {ty : ArrayType} {kd : Nat} {n : Int32} (hk : ty = .int ∧ kd = 100 ∨ ty = .long ∧ kd = 101 ∨ ty = .boolean ∧ kd = 102) (hn : ¬ (n < 0 ∨ 100000 < n.toNatClampNeg)) (hd : decode (xm mid).2.2.1 pc = .ok (.newarray ty, 2)) (hc : cells + 1 ≤ R.cells) (hsl : slots + n.toNatClampNeg ≤ R.slots)
    (kk : ∀ (H1 : Heap), xRel G (xmake (kd, n.toNatClampNeg) μ) H1 → va_S (xA G) s.heap H1 locs → W p l e R s m args below meth c H1 locs (cells + 1) (slots + n.toNatClampNeg) Q (F0 m (pc + 2) ls (.ref (xad G μ.1.length) :: rest))) : W p l e R s m args below meth c H locs cells slots Q (F0 m pc ls (.int n :: rest)) := by
  refine xW_size fun hle => ?_
  obtain ⟨hx, hb, -, hown, hts, hK, hO, -⟩ := C
  have hsz := xsize hR hS hN hO.2.2.2.2 hle
  have hn1 : ¬ n < 0 := fun h => hn (Or.inl h)
  have hn2 : n.toNatClampNeg ≤ 100000 := Nat.not_lt.mp fun h => hn (Or.inr h)
  rcases hk with ⟨rfl, rfl⟩ | ⟨rfl, rfl⟩ | ⟨rfl, rfl⟩
  · refine va_newaK (atype := .int) hx hb (hts _ xarr_in.1) rfl hd rfl hn1 rfl (by show n.toNatClampNeg * 4 ≤ 536870912; omega) hc hsl rfl fun H1 cA e1 z1 o1 _ hNm => ?_
    have hk := kk H1 (xmake_rel hR h2 hsz (by simp [xok]) o1 ?_) (xS_push hS z1 o1)
    · rw [xad_ge G h2, ← hsz] at hk
      exact hk
    · have hcA : cA = G.2.2.1 100 := Option.some.inj (hNm.symm.trans (hK.1.2 0 _ rfl).2)
      rw [← hsz]
      show H1[H.size]? = some (vp_cell (G.2.2.1 100) (n.toNatClampNeg, .inl ((xmake (100, n.toNatClampNeg) μ).2.1 μ.1.length)))
      rw [← hcA, vp_cell_i, e1]
      congr 2
      funext j
      simp [xmake, xz, defaultValue, newarray.typeOf]
  · refine va_newaK (atype := .long) hx hb (hts _ xarr_in.2.1) rfl hd rfl hn1 rfl (by show n.toNatClampNeg * 8 ≤ 536870912; omega) hc hsl rfl fun H1 cA e1 z1 o1 _ hNm => ?_
    have hk := kk H1 (xmake_rel hR h2 hsz (by simp [xok]) o1 ?_) (xS_push hS z1 o1)
    · rw [xad_ge G h2, ← hsz] at hk
      exact hk
    · have hcA : cA = G.2.2.1 101 := Option.some.inj (hNm.symm.trans (hK.1.2 1 _ rfl).2)
      rw [← hsz]
      show H1[H.size]? = some (vp_cell (G.2.2.1 101) (n.toNatClampNeg, .inr (.inl ((xmake (101, n.toNatClampNeg) μ).2.2.1 μ.1.length))))
      rw [← hcA, vp_cell_l, e1]
      congr 2
      funext j
      simp [xmake, xz, defaultValue, newarray.typeOf]
  · refine va_newaK (atype := .boolean) hx hb (hts _ xarr_in.2.2.1) rfl hd rfl hn1 rfl (by show n.toNatClampNeg * 1 ≤ 536870912; omega) hc hsl rfl fun H1 cA e1 z1 o1 _ hNm => ?_
    have hk := kk H1 (xmake_rel hR h2 hsz (by simp [xok]) o1 ?_) (xS_push hS z1 o1)
    · rw [xad_ge G h2, ← hsz] at hk
      exact hk
    · have hcA : cA = G.2.2.1 102 := Option.some.inj (hNm.symm.trans (hK.1.2 2 _ rfl).2)
      rw [← hsz]
      show H1[H.size]? = some (vp_cell (G.2.2.1 102) (n.toNatClampNeg, .inl ((xmake (102, n.toNatClampNeg) μ).2.1 μ.1.length)))
      rw [← hcA, vp_cell_i, e1]
      congr 2
      funext j
      simp [xmake, xz, defaultValue, newarray.typeOf]
theorem xanewS (C : xCx G p s m args meth c mid) (hR : xRel G μ H) (hS : va_S (xA G) s.heap H locs) (hN : s.heap.size + cells = G.1 0 + (μ.1.length - 2)) (h2 : 2 ≤ μ.1.length) {i ci kd q : Nat} {n : Int32} (hi : i < 1000) (hlk : xCT.lookup ((xm mid).1 * 1000 + i) = some (ci, q)) (hk : ci = 8 ∧ kd = 103 ∨ ci = 4 ∧ kd = 104) (hn : ¬ (n < 0 ∨ 100000 < n.toNatClampNeg)) (hd : decode (xm mid).2.2.1 pc = .ok (.anewarray i, 3)) (hc : cells + 1 ≤ R.cells) (hsl : slots + n.toNatClampNeg ≤ R.slots)
    (kk : ∀ (H1 : Heap), xRel G (xmake (kd, n.toNatClampNeg) μ) H1 → va_S (xA G) s.heap H1 locs → W p l e R s m args below meth c H1 locs (cells + 1) (slots + n.toNatClampNeg) Q (F0 m (pc + 3) ls (.ref (xad G μ.1.length) :: rest))) : W p l e R s m args below meth c H locs cells slots Q (F0 m pc ls (.int n :: rest)) := by
  refine xW_size fun hle => ?_
  obtain ⟨hx, hb, -, hown, hts, hK, hO, -⟩ := C
  have hsz := xsize hR hS hN hO.2.2.2.2 hle
  have hn1 : ¬ n < 0 := fun h => hn (Or.inl h)
  have hn2 : n.toNatClampNeg ≤ 100000 := Nat.not_lt.mp fun h => hn (Or.inr h)
  obtain ⟨hci, hlink⟩ := xCT_at hi hlk
  rcases hk with ⟨rfl, rfl⟩ | ⟨rfl, rfl⟩
  · refine W.anew (C := RX9) hx hb hown (hts _ hlink) (va_AO.use hK.2.2.1) rfl hd rfl hn1 (by omega) hc hsl fun cA kA comp f1 f2 f3 f4 => ?_
    generalize hH1 : H.push ({ cls := cA, slots := Array.replicate n.toNatClampNeg .null, vm := .none } : Cell) = H1
    have z1 : H1.size = H.size + 1 := by rw [← hH1, Array.size_push]
    have e1 : H1[H.size]? = some (arrV cA n.toNatClampNeg (fun _ => .null)) := by rw [← hH1, Array.getElem?_push_size, ← arrV_new]
    have o1 : ∀ q : Nat, q < H.size → H1[q]? = H[q]? := fun q hq => by rw [← hH1, Array.getElem?_push, if_neg (Nat.ne_of_lt hq)]
    have hk := kk H1 (xmake_rel hR h2 hsz (by simp [xok]) o1 ?_) (xS_push hS z1 o1)
    · rw [xad_ge G h2, ← hsz] at hk
      exact hk
    · obtain ⟨kA2, comp2, -, -, -, g4⟩ := (hK.1.2 3 _ rfl).2
      have hcA : cA = G.2.2.1 103 := Option.some.inj (f1.symm.trans g4)
      rw [← hsz]
      show H1[H.size]? = some (vp_cell (G.2.2.1 103) (n.toNatClampNeg, .inr (.inr (.inr (.inr (fun j => ((xmake (103, n.toNatClampNeg) μ).2.2.2 μ.1.length j).map (xad G)))))))
      rw [← hcA, vp_cell_q, e1]
      congr 2
      funext j
      simp [xmake, xz, va_rf]
  · refine W.anew (C := RX5) hx hb hown (hts _ hlink) (va_AO.use hK.2.2.2) rfl hd rfl hn1 (by omega) hc hsl fun cA kA comp f1 f2 f3 f4 => ?_
    generalize hH1 : H.push ({ cls := cA, slots := Array.replicate n.toNatClampNeg .null, vm := .none } : Cell) = H1
    have z1 : H1.size = H.size + 1 := by rw [← hH1, Array.size_push]
    have e1 : H1[H.size]? = some (arrV cA n.toNatClampNeg (fun _ => .null)) := by rw [← hH1, Array.getElem?_push_size, ← arrV_new]
    have o1 : ∀ q : Nat, q < H.size → H1[q]? = H[q]? := fun q hq => by rw [← hH1, Array.getElem?_push, if_neg (Nat.ne_of_lt hq)]
    have hk := kk H1 (xmake_rel hR h2 hsz (by simp [xok]) o1 ?_) (xS_push hS z1 o1)
    · rw [xad_ge G h2, ← hsz] at hk
      exact hk
    · obtain ⟨kA2, comp2, -, -, -, g4⟩ := (hK.1.2 4 _ rfl).2
      have hcA : cA = G.2.2.1 104 := Option.some.inj (f1.symm.trans g4)
      rw [← hsz]
      show H1[H.size]? = some (vp_cell (G.2.2.1 104) (n.toNatClampNeg, .inr (.inr (.inr (.inr (fun j => ((xmake (104, n.toNatClampNeg) μ).2.2.2 μ.1.length j).map (xad G)))))))
      rw [← hcA, vp_cell_q, e1]
      congr 2
      funext j
      simp [xmake, xz, va_rf]
end XARR
