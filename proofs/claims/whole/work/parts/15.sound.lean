/-! soundness: calls, ends, and the whole -/
def xroom (d mc ms : Nat) : Room := { frames := d + 1, cells := mc, slots := ms, locals := 60 * (d + 1) }
def xWs (f : Nat) : List Cond := xcw f :: xGW
def xPc (G : xP) (as : List Value) (μ : xM) : Array Value → State → Prop := va_Pc (as.map (xv G)) (fun U => xK G U ∧ xO G U U.heap ∧ xRel G μ U.heap ∧ U.heap.size = G.1 0 + (μ.1.length - 2) ∧ 2 ≤ μ.1.length)
def xQc (G : xP) (v : Option Value) (μ' : xM) : Array Value → State → Outcome → State → Prop := fun _ st oc t => (oc = .returned (v.map (xv G)) ∧ xRel G μ' t.heap) ∧ va_F (xA G) st t
theorem xK_warm {G : xP} {s U : State} (hW : s.WarmedH U.vm) (h : xK G s) : xK G U := by
  refine ⟨va_K.moved hW.alike h.1, fun w hw hn => ?_, h.2.2.1.moved hW.alike, h.2.2.2.moved hW.alike⟩
  have hz := h.2.1 w hw hn
  cases w <;> first | exact va_Nw.warmF hW hz | exact va_Nw.warmM hW hz | cases hn
theorem xK_vm {G : xP} {s U : State} (hv : s.vm = U.vm) (h : xK G s) : xK G U := by
  refine ⟨va_K.moved (by rw [hv]; exact Vm.Alike.refl _) h.1, fun w hw hn => ?_, h.2.2.1.moved (by rw [hv]; exact Vm.Alike.refl _), h.2.2.2.moved (by rw [hv]; exact Vm.Alike.refl _)⟩
  have hz := h.2.1 w hw hn
  cases w <;> first | exact va_Nw.same rfl hv hz | cases hn
theorem xO_to {G : xP} {s U : State} {H : Heap} {locs : List Loc} (hv : s.vm.Alike U.vm) (hS : va_S (xA G) s.heap H locs) (h : xO G s s.heap) : xO G U H := by
  obtain ⟨h1, h2, h3, h4, h5⟩ := h
  exact ⟨(h1.kept (hS.2.1 _ (Nat.lt_of_lt_of_le h4 h5) (Nat.not_le.mpr h4))).moved hv, (h2.kept hS.2.1).moved hv, (h3.kept hS.2.1).moved hv, h4, Nat.le_trans h5 hS.1⟩
theorem xblind (G : xP) (as : List Value) (μ : xM) : FrameBlind (xPc G as μ) := by
  intro a U g mk ⟨h0, h1, h2, h3, h4, h5⟩
  exact ⟨h0, xK_vm (s := U) (U := U.calling g mk a) rfl h1, ⟨va_X.moved (Vm.Alike.refl _) h2.1, va_Z.moved (Vm.Alike.refl _) h2.2.1, va_T.moved (Vm.Alike.refl _) h2.2.2.1, h2.2.2.2.1, h2.2.2.2.2⟩, h3, h4, h5⟩
theorem xmok_at {f : Nat} (h : f < 239) : ∃ q, xmokr (xm f) q = true := by
  have hl : f < (xMT.zip xMP).length := by
    have : (xMT.zip xMP).length = 239 := by decide +kernel
    omega
  have h1 := List.all_eq_true.mp xmok_all _ (List.getElem_mem hl)
  rw [List.getElem_zip] at h1
  refine ⟨xMP[f]'(by have := hl; simp only [List.length_zip] at this; omega), ?_⟩
  have hf : f < xMT.length := by have := hl; simp only [List.length_zip] at this; omega
  have e : xm f = xMT[f]'hf := by
    simp only [xm, List.getD]
    rw [List.getElem?_eq_getElem hf]
    rfl
  rw [e]
  exact h1
/-- what a method of the tables has -/
theorem xmeth {f : Nat} (h : f < 239) : xcw f ∈ xGW ∧ Cond.initialized (xyn f).cls ∈ xGW ∧ plainName (xyn f).cls = true ∧ ((xyn f).cls ≠ "java/lang/invoke/MethodHandle" ∧ (xyn f).cls ≠ "java/lang/invoke/VarHandle") ∧ (∀ sig, parseMethodDescriptor (xyn f).desc = some sig → (xm f).2.2.2.2.2.1 = sig.parameters.length) ∧ (xyn f).cls = xR (xm f).1 ∧ (xm f).2.2.2.1 ≤ 40 ∧
    ((xm f).2.2.2.2.2.2 = true → Cond.static (xyn f) ∈ xGW) ∧ ((xm f).2.2.2.2.2.2 = false → Cond.instanceMethod (xyn f) ∈ xGW ∧ ((xyn f).name ≠ "<init>" → Cond.selects (xR (xm f).1) (xyn f) (xyn f) ∈ xGW ∧ xci (xm f).1 < 11)) := by
  obtain ⟨q, hq⟩ := xmok_at h
  have hcd := xcd_all f h
  unfold xcw xcr at *
  unfold xyn
  generalize xm f = r at *
  obtain ⟨c, y, b, ml, rt, na, st⟩ := r
  simp only [xmokr, Bool.and_eq_true, decide_eq_true_eq] at hq
  obtain ⟨⟨⟨⟨⟨⟨⟨⟨⟨q1, q2⟩, q3⟩, q4⟩, q5⟩, q6⟩, q7⟩, q8⟩, q9⟩, q10⟩ := hq
  refine ⟨xgw hcd q1, xgw (xgood_mem q2).1 (xgood_mem q2).2, q3, ⟨q4, q5⟩, fun sig hs => ?_, q7, q9, fun hst => ?_, fun hst => ?_⟩
  · rw [hs] at q6
    exact (Option.some.inj q6).symm
  · simp only at hst
    rw [hst, if_pos rfl] at q10
    exact xgw (xgood_mem q10).1 (xgood_mem q10).2
  · simp only at hst
    rw [hst, if_neg (by decide)] at q10
    simp only [Bool.and_eq_true, Bool.or_eq_true, decide_eq_true_eq] at q10
    refine ⟨xgw (xgood_mem q10.1).1 (xgood_mem q10.1).2, fun hne => ?_⟩
    rcases q10.2 with hh | hh
    · exact absurd hh hne
    · exact ⟨xgw (xgood_mem hh.1).1 (xgood_mem hh.1).2, hh.2⟩
section XS
variable {p : Program} {l : Launch} {e : Env} {R : Room} {s : State} {m : MethodId} {args : Array Value} {below : List Frame} {meth : Method} {c : Code} {H : Heap} {locs : List Loc} {cells slots : Nat} {Q : State → Prop} {G : xP} {pc mid : Nat} {ls : Array Slot} {μ : xM}
/-- behind a call -/
theorem xafter {mc ms : Nat} {st0 rest : List Value} {v : Option Value} {μ' : xM} {a : Array Value} (hr : va_Run p l e R s m args below meth c H locs cells slots mc ms (F0 m pc ls st0) rest (xQc G v μ' a) (xA G)) (hS : va_S (xA G) s.heap H locs)
    (kk : ∀ (H1 : Heap) (locs1 : List Loc), xRel G μ' H1 → va_S (xA G) s.heap H1 locs1 → W p l e R s m args below meth c H1 locs1 (cells + mc) (slots + ms) Q (F0 m (pc + 3) ls ((v.map (xv G)).toList ++ rest))) : W p l e R s m args below meth c H locs cells slots Q (F0 m pc ls st0) := by
  intro T hT X
  obtain ⟨v1, st₀, t, T', L, h0, X', hL, e1, e2, ⟨⟨hv, hp⟩, hz, hk⟩, st⟩ := hr T hT X
  cases hv
  rw [h0] at hz hk
  obtain ⟨t2, a1, b1⟩ := kk T'.heap (locs ++ L) (by rw [e1]; exact hp)
    ⟨Nat.le_trans hS.1 (by rw [e1]; exact hz), fun q h1 h2 => by rw [e1, hk q (Nat.lt_of_lt_of_le h1 hS.1) h2]; exact hS.2.1 q h1 h2, fun q hq => by
      rcases List.mem_append.mp hq with h | h
      · exact hS.2.2 q h
      · exact hL q h⟩ T' rfl X'
  exact ⟨t2, st t2 a1, b1⟩
theorem xpre (C : xCx G p s m args meth c mid) (hR : xRel G μ H) (hS : va_S (xA G) s.heap H locs) (hsz : H.size = G.1 0 + (μ.1.length - 2)) (h2 : 2 ≤ μ.1.length) (as : List Value) : ∀ U : State, U.heap = H → s.WarmedH U.vm → xPc G as μ (as.map (xv G)).toArray U := by
  intro U hU hW
  obtain ⟨-, -, -, -, -, hK, hO, -⟩ := C
  exact ⟨rfl, xK_warm hW hK, by rw [hU]; exact xO_to hW.alike hS hO, by rw [hU]; exact hR, by rw [hU]; exact hsz, h2⟩
theorem xwsW (C : xCx G p s m args meth c mid) {f : Nat} (hf : f < 239) : ∀ w ∈ xWs f, ∀ (a' : Array Value) (U : State), s.WarmedH U.vm → w.before a' U = true := by
  intro w hw a' U hW
  obtain ⟨-, -, -, -, hts, -⟩ := C
  have hin : w ∈ xGW := by
    rcases List.mem_cons.mp hw with rfl | h
    · exact (xmeth hf).1
    · exact h
  exact word_at hW (good_of_word (List.mem_filter.mp hin).2) (hts w hin)
theorem xit_at {c i kd f q : Nat} (h : xIT.lookup (c * 1000 + i) = some (kd, f, q)) : xitok (c * 1000 + i, kd, f, q) = true := List.all_eq_true.mp xit_all _ (xlk_mem h)
/-- a call out of a contract of the callee -/
theorem xcall_sound (C : xCx G p s m args meth c mid) (hR : xRel G μ H) (hS : va_S (xA G) s.heap H locs) (hN : s.heap.size + cells = G.1 0 + (μ.1.length - 2)) (h2 : 2 ≤ μ.1.length) {loc : List Value} (hl : xL G loc ls (xm mid).2.2.2.1)
    {i kd f q d : Nat} {st as rest : List Value} {v : Option Value} {μ1 : xM} (hi : i < 1000) (hlk : xIT.lookup ((xm mid).1 * 1000 + i) = some (kd, f, q)) (h : xinv kd f pc loc st μ = some (.inr (.inr (f, as, rest)))) {ins : Instr}
    (hk : (kd ≤ 1 ∧ ins = .invokevirtual i) ∨ ((kd = 2 ∨ kd = 3) ∧ ins = .invokestatic i) ∨ ((kd = 4 ∨ kd = 5) ∧ ins = .invokespecial i)) (hd : decode (xm mid).2.2.1 pc = .ok (ins, 3))
    (hM : Met l (xyn f) (xWs f) (xroom d (μ1.1.length - μ.1.length) (xns μ1 - xns μ)) (xPc G as μ) (xQc G v μ1) (μ1.1.length - μ.1.length) (xns μ1 - xns μ) (xA G))
    (hRf : d + 2 ≤ R.frames) (hRl : 60 * (d + 2) ≤ R.locals) (hrc : cells + (μ1.1.length - μ.1.length) ≤ R.cells) (hrs : slots + (xns μ1 - xns μ) ≤ R.slots)
    (kk : ∀ (H1 : Heap) (locs1 : List Loc), xRel G μ1 H1 → va_S (xA G) s.heap H1 locs1 → W p l e R s m args below meth c H1 locs1 (cells + (μ1.1.length - μ.1.length)) (slots + (xns μ1 - xns μ)) Q (F0 m (pc + 3) ls ((v.toList ++ rest).map (xv G)))) : W p l e R s m args below meth c H locs cells slots Q (F0 m pc ls (st.map (xv G))) := by
  refine xW_size fun hle => ?_
  have hC := C
  obtain ⟨hx, hb, hml, hown, hts, hK, hO, -, hmid⟩ := C
  have hsz := xsize hR hS hN hO.2.2.2.2 hle
  have hit := xit_at hlk
  simp only [xitok, Bool.and_eq_true, decide_eq_true_eq] at hit
  obtain ⟨hf, hit⟩ := hit
  obtain ⟨hcd, hini, hpl, hyy, hsig, hcls, hml40, hstat, hinst⟩ := xmeth hf
  have kk2 : ∀ (H1 : Heap) (locs1 : List Loc), xRel G μ1 H1 → va_S (xA G) s.heap H1 locs1 → W p l e R s m args below meth c H1 locs1 (cells + (μ1.1.length - μ.1.length)) (slots + (xns μ1 - xns μ)) Q (F0 m (pc + 3) ls ((v.map (xv G)).toList ++ rest.map (xv G))) := by
    intro H1 locs1 a1 a2
    have := kk H1 locs1 a1 a2
    rw [List.map_append] at this
    cases v <;> exact this
  have hfix : CallFix p m c (xm mid).2.2.1 (xm mid).2.2.2.1 s args xGW (xR (xm mid).1) := ⟨hx, hb, hml, hown, hts⟩
  have hcode : (Cond.code (xyn f) (xm f).2.2.1 (xm f).2.2.2.1 (xm f).2.2.2.2.1).before args s = true := hts _ hcd
  have hroomL : 8 + ((xm f).2.2.2.1 + 11) + (xroom d (μ1.1.length - μ.1.length) (xns μ1 - xns μ)).locals ≤ R.locals := by simp only [xroom]; omega
  have hroomF : (xroom d (μ1.1.length - μ.1.length) (xns μ1 - xns μ)).frames + 1 ≤ R.frames := by simp only [xroom]; omega
  have hsize : (F0 m pc ls (st.map (xv G))).locals.size = (xm mid).2.2.2.1 := hl.2.1
  have hmem : Cond.code (xyn f) (xm f).2.2.1 (xm f).2.2.2.1 (xm f).2.2.2.2.1 ∈ xWs f := List.mem_cons_self
  have hc6 : (xroom d (μ1.1.length - μ.1.length) (xns μ1 - xns μ)).cells = (μ1.1.length - μ.1.length) ∧ (xroom d (μ1.1.length - μ.1.length) (xns μ1 - xns μ)).slots = (xns μ1 - xns μ) := ⟨rfl, rfl⟩
  have hsum : ∀ r : List Value, xcat r = true → 2 * (F0 m pc ls (st.map (xv G))).monitorRoom + ((r.map (xv G)).map fun v => v.category).sum ≤ 8 := by
    intro r hr
    refine lv_room ?_
    rw [List.map_map]
    simp only [xcat, decide_eq_true_eq] at hr
    have : ((fun v => Value.category v) ∘ xv G) = fun v => Value.category v := funext fun w => xv_cat G w
    rw [this]
    exact hr
  unfold xinv at h
  simp only at h
  split at h
  · rename_i htk
    have hst : st = st.take (xm f).2.2.2.2.2.1 ++ st.drop (xm f).2.2.2.2.2.1 := (List.take_append_drop _ st).symm
    have hlenA : ((st.take (xm f).2.2.2.2.2.1).reverse.map (xv G)).length = (xm f).2.2.2.2.2.1 := by rw [List.length_map, List.length_reverse]; exact htk
    split at h
    · -- static
      unfold xcall at h
      split at h
      · rename_i hcat0
        have hcat := (Bool.and_eq_true _ _ ▸ hcat0).1
        simp only [Option.some.injEq, Sum.inr.injEq, Prod.mk.injEq, true_and] at h
        obtain ⟨rfl, rfl⟩ := h
        simp only [Bool.and_eq_true] at hit
        have hins : ins = .invokestatic i := by rcases hk with ⟨a1, a2⟩ | ⟨a1, a2⟩ | ⟨a1, a2⟩ <;> first | exact a2 | omega
        subst hins
        have hlink : (Cond.methodLink (xR (xm mid).1) i (xyn f)).before args s = true := by
          have := xgood_mem hit.1
          rw [xkey1 _ hi, xkey2 _ hi] at this
          exact hts _ (xgw this.1 this.2)
        refine xafter (a := ((st.take (xm f).2.2.2.2.2.1).reverse.map (xv G)).toArray) (va_runS (As := (st.take (xm f).2.2.2.2.2.1).reverse.map (xv G)) (rest := (st.drop (xm f).2.2.2.2.2.1).map (xv G)) (bytes := (xm f).2.2.1) (maxL := (xm f).2.2.2.1) (ret := (xm f).2.2.2.2.1) hfix hM ⟨⟨hc6.1, hc6.2, hroomF, hroomL, xwsW hC hf, hmem, hcode, hts _ hini, hyy, hsig, hlink⟩, hts _ (hstat hit.2)⟩ ⟨xblind G _ _, xpre hC hR hS hsz h2 _⟩ rfl hlenA hsize ?_ (hsum _ hcat) hd ⟨hrc, hrs⟩) hS kk2
        show st.map (xv G) = ((st.take _).reverse.map (xv G)).reverse ++ (st.drop _).map (xv G)
        rw [← List.map_reverse, List.reverse_reverse, ← List.map_append, List.take_append_drop]
      · cases h
    · -- static, nest
      unfold xcall at h
      split at h
      · rename_i hcat0
        have hcat := (Bool.and_eq_true _ _ ▸ hcat0).1
        simp only [Option.some.injEq, Sum.inr.injEq, Prod.mk.injEq, true_and] at h
        obtain ⟨rfl, rfl⟩ := h
        simp only [Bool.and_eq_true, xthere, decide_eq_true_eq] at hit
        have hins : ins = .invokestatic i := by rcases hk with ⟨a1, a2⟩ | ⟨a1, a2⟩ | ⟨a1, a2⟩ <;> first | exact a2 | omega
        subst hins
        have hlink : (Cond.methodLinkNest (xR (xm mid).1) i (xyn f) "BeanVoices").before args s = true := by
          have := hit.1
          rw [xkey1 _ hi, xkey2 _ hi] at this
          exact va_Nw.use rfl (hK.2.1 _ (List.mem_of_getElem? this) rfl)
        refine xafter (a := ((st.take (xm f).2.2.2.2.2.1).reverse.map (xv G)).toArray) (va_runSN (As := (st.take (xm f).2.2.2.2.2.1).reverse.map (xv G)) (rest := (st.drop (xm f).2.2.2.2.2.1).map (xv G)) (bytes := (xm f).2.2.1) (maxL := (xm f).2.2.2.1) (ret := (xm f).2.2.2.2.1) hfix hM ⟨⟨⟨hc6.1, hc6.2, hroomF, hroomL, xwsW hC hf, hmem⟩, hcode, hts _ hini, hyy, hsig, hlink⟩, hts _ (hstat hit.2), trivial⟩ ⟨xblind G _ _, xpre hC hR hS hsz h2 _⟩ rfl hlenA hsize ?_ (hsum _ hcat) hd ⟨hrc, hrs⟩) hS kk2
        show st.map (xv G) = ((st.take _).reverse.map (xv G)).reverse ++ (st.drop _).map (xv G)
        rw [← List.map_reverse, List.reverse_reverse, ← List.map_append, List.take_append_drop]
      · cases h
    · -- virtual
      split at h
      · rename_i b rest' hdrop
        split at h
        · rename_i ci n hsh
          split at h
          · rename_i hci
            unfold xcall at h
            split at h
            · rename_i hcat0
              have hcat := (Bool.and_eq_true _ _ ▸ hcat0).1
              simp only [Option.some.injEq, Sum.inr.injEq, Prod.mk.injEq, true_and] at h
              obtain ⟨rfl, rfl⟩ := h
              simp only [Bool.and_eq_true, Bool.not_eq_true', decide_eq_true_eq] at hit
              have hins : ins = .invokevirtual i := by rcases hk with ⟨a1, a2⟩ | ⟨a1, a2⟩ | ⟨a1, a2⟩ <;> first | exact a2 | omega
              subst hins
              have hin2 := hinst hit.1.2
              have hsel := hin2.2 hit.2
              have hlink : (Cond.methodLink (xR (xm mid).1) i (xyn f)).before args s = true := by
                have := xgood_mem hit.1.1
                rw [xkey1 _ hi, xkey2 _ hi] at this
                exact hts _ (xgw this.1 this.2)
              obtain ⟨h3, -, hw⟩ := xobj hR (by rw [hci]; exact hsel.2) hsh
              have hrecv := va_recv hK.1 hR.2.2.2.2.2 (xcl_get (by rw [hci]; exact hsel.2)) hw
              rw [show (xCi ci).1 = xR (xm f).1 by rw [hci]; exact xcl_own _ (xc16 f (by omega)) hsel.2] at hrecv
              refine xafter (a := (Value.ref (xad G b) :: (st.take (xm f).2.2.2.2.2.1).reverse.map (xv G)).toArray) (va_runV (C := xR (xm f).1) (b := xad G b) (As := (st.take (xm f).2.2.2.2.2.1).reverse.map (xv G)) (rest := rest'.map (xv G)) (bytes := (xm f).2.2.1) (maxL := (xm f).2.2.2.1) (ret := (xm f).2.2.2.2.1) hfix hM ⟨⟨hc6.1, hc6.2, hroomF, hroomL, xwsW hC hf, hmem, hcode, hts _ hini, hyy, hsig, hlink⟩, hts _ hin2.1, hts _ hsel.1⟩ ⟨xblind G _ _, hrecv, xpre hC hR hS hsz h2 (.ref b :: (st.take (xm f).2.2.2.2.2.1).reverse)⟩ rfl hlenA hsize ?_ (hsum _ hcat) hd ⟨hrc, hrs⟩) hS kk2
              show st.map (xv G) = ((st.take _).reverse.map (xv G)).reverse ++ .ref (xad G b) :: rest'.map (xv G)
              rw [← List.map_reverse, List.reverse_reverse, show Value.ref (xad G b) :: rest'.map (xv G) = (st.drop (xm f).2.2.2.2.2.1).map (xv G) by rw [hdrop]; rfl, ← List.map_append, List.take_append_drop]
            · cases h
          · cases h
        · cases h
      · cases h
    · -- virtual, nest
      split at h
      · rename_i b rest' hdrop
        split at h
        · rename_i ci n hsh
          split at h
          · rename_i hci
            unfold xcall at h
            split at h
            · rename_i hcat0
              have hcat := (Bool.and_eq_true _ _ ▸ hcat0).1
              simp only [Option.some.injEq, Sum.inr.injEq, Prod.mk.injEq, true_and] at h
              obtain ⟨rfl, rfl⟩ := h
              simp only [Bool.and_eq_true, Bool.not_eq_true', xthere, decide_eq_true_eq] at hit
              have hins : ins = .invokevirtual i := by rcases hk with ⟨a1, a2⟩ | ⟨a1, a2⟩ | ⟨a1, a2⟩ <;> first | exact a2 | omega
              subst hins
              have hin2 := hinst hit.1.2
              have hsel := hin2.2 hit.2
              have hlink : (Cond.methodLinkNest (xR (xm mid).1) i (xyn f) "BeanVoices").before args s = true := by
                have := hit.1.1
                rw [xkey1 _ hi, xkey2 _ hi] at this
                exact va_Nw.use rfl (hK.2.1 _ (List.mem_of_getElem? this) rfl)
              obtain ⟨h3, -, hw⟩ := xobj hR (by rw [hci]; exact hsel.2) hsh
              have hrecv := va_recv hK.1 hR.2.2.2.2.2 (xcl_get (by rw [hci]; exact hsel.2)) hw
              rw [show (xCi ci).1 = xR (xm f).1 by rw [hci]; exact xcl_own _ (xc16 f (by omega)) hsel.2] at hrecv
              refine xafter (a := (Value.ref (xad G b) :: (st.take (xm f).2.2.2.2.2.1).reverse.map (xv G)).toArray) (va_runVN (C := xR (xm f).1) (b := xad G b) (As := (st.take (xm f).2.2.2.2.2.1).reverse.map (xv G)) (rest := rest'.map (xv G)) (bytes := (xm f).2.2.1) (maxL := (xm f).2.2.2.1) (ret := (xm f).2.2.2.2.1) hfix hM ⟨⟨⟨hc6.1, hc6.2, hroomF, hroomL, xwsW hC hf, hmem⟩, hcode, hts _ hini, hyy, hsig, hlink⟩, hts _ hin2.1, hts _ hsel.1⟩ ⟨xblind G _ _, hrecv, xpre hC hR hS hsz h2 (.ref b :: (st.take (xm f).2.2.2.2.2.1).reverse)⟩ rfl hlenA hsize ?_ (hsum _ hcat) hd ⟨hrc, hrs⟩) hS kk2
              show st.map (xv G) = ((st.take _).reverse.map (xv G)).reverse ++ .ref (xad G b) :: rest'.map (xv G)
              rw [← List.map_reverse, List.reverse_reverse, show Value.ref (xad G b) :: rest'.map (xv G) = (st.drop (xm f).2.2.2.2.2.1).map (xv G) by rw [hdrop]; rfl, ← List.map_append, List.take_append_drop]
            · cases h
          · cases h
        · cases h
      · cases h
    · -- init
      split at h
      · rename_i b rest' hdrop
        unfold xcall at h
        split at h
        · rename_i hcat0
          have hcat := (Bool.and_eq_true _ _ ▸ hcat0).1
          simp only [Option.some.injEq, Sum.inr.injEq, Prod.mk.injEq, true_and] at h
          obtain ⟨rfl, rfl⟩ := h
          simp only [Bool.and_eq_true, Bool.not_eq_true', decide_eq_true_eq] at hit
          have hins : ins = .invokespecial i := by rcases hk with ⟨a1, a2⟩ | ⟨a1, a2⟩ | ⟨a1, a2⟩ <;> first | exact a2 | omega
          subst hins
          have hin2 := hinst hit.1.1.2
          have hlink : (Cond.methodLink (xR (xm mid).1) i (xyn f)).before args s = true := by
            have := xgood_mem hit.1.1.1
            rw [xkey1 _ hi, xkey2 _ hi] at this
            exact hts _ (xgw this.1 this.2)
          rw [hit.2] at hcode hmem
          refine xafter (a := (Value.ref (xad G b) :: (st.take (xm f).2.2.2.2.2.1).reverse.map (xv G)).toArray) (va_runI (b := xad G b) (As := (st.take (xm f).2.2.2.2.2.1).reverse.map (xv G)) (rest := rest'.map (xv G)) (bytes := (xm f).2.2.1) (maxL := (xm f).2.2.2.1) hfix hM ⟨⟨hc6.1, hc6.2, hroomF, hroomL, xwsW hC hf, hmem, hcode, hts _ hini, hyy, hsig, hlink⟩, hit.1.2, hts _ hin2.1⟩ ⟨xblind G _ _, xpre hC hR hS hsz h2 (.ref b :: (st.take (xm f).2.2.2.2.2.1).reverse)⟩ rfl hlenA hsize ?_ (hsum _ hcat) hd ⟨hrc, hrs⟩) hS kk2
          show st.map (xv G) = ((st.take _).reverse.map (xv G)).reverse ++ .ref (xad G b) :: rest'.map (xv G)
          rw [← List.map_reverse, List.reverse_reverse, show Value.ref (xad G b) :: rest'.map (xv G) = (st.drop (xm f).2.2.2.2.2.1).map (xv G) by rw [hdrop]; rfl, ← List.map_append, List.take_append_drop]
        · cases h
      · cases h
    · -- init, nest
      split at h
      · rename_i b rest' hdrop
        unfold xcall at h
        split at h
        · rename_i hcat0
          have hcat := (Bool.and_eq_true _ _ ▸ hcat0).1
          simp only [Option.some.injEq, Sum.inr.injEq, Prod.mk.injEq, true_and] at h
          obtain ⟨rfl, rfl⟩ := h
          simp only [Bool.and_eq_true, Bool.not_eq_true', xthere, decide_eq_true_eq] at hit
          have hins : ins = .invokespecial i := by rcases hk with ⟨a1, a2⟩ | ⟨a1, a2⟩ | ⟨a1, a2⟩ <;> first | exact a2 | omega
          subst hins
          have hin2 := hinst hit.1.1.2
          have hlink : (Cond.methodLinkNest (xR (xm mid).1) i (xyn f) "BeanVoices").before args s = true := by
            have := hit.1.1.1
            rw [xkey1 _ hi, xkey2 _ hi] at this
            exact va_Nw.use rfl (hK.2.1 _ (List.mem_of_getElem? this) rfl)
          rw [hit.2] at hcode hmem
          refine xafter (a := (Value.ref (xad G b) :: (st.take (xm f).2.2.2.2.2.1).reverse.map (xv G)).toArray) (va_runIN (b := xad G b) (As := (st.take (xm f).2.2.2.2.2.1).reverse.map (xv G)) (rest := rest'.map (xv G)) (bytes := (xm f).2.2.1) (maxL := (xm f).2.2.2.1) hfix hM ⟨⟨⟨hc6.1, hc6.2, hroomF, hroomL, xwsW hC hf, hmem⟩, hcode, hts _ hini, hyy, hsig, hlink⟩, hit.1.2, hts _ hin2.1⟩ ⟨xblind G _ _, xpre hC hR hS hsz h2 (.ref b :: (st.take (xm f).2.2.2.2.2.1).reverse)⟩ rfl hlenA hsize ?_ (hsum _ hcat) hd ⟨hrc, hrs⟩) hS kk2
          show st.map (xv G) = ((st.take _).reverse.map (xv G)).reverse ++ .ref (xad G b) :: rest'.map (xv G)
          rw [← List.map_reverse, List.reverse_reverse, show Value.ref (xad G b) :: rest'.map (xv G) = (st.drop (xm f).2.2.2.2.2.1).map (xv G) by rw [hdrop]; rfl, ← List.map_append, List.take_append_drop]
        · cases h
      · cases h
    · cases h
  · cases h
end XS
