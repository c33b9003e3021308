/-! soundness: the frame of a run, and a method's contract -/
theorem xinv_len {kd f pc f' : Nat} {loc st as rest : List Value} {μ : xM} (h : xinv kd f pc loc st μ = some (.inr (.inr (f', as, rest)))) : f' = f ∧ (xsl as).length ≤ (xm f).2.2.2.1 := by
  have key : ∀ {as' rest' : List Value}, xcall f as' rest' = some (.inr (.inr (f', as, rest))) → f' = f ∧ (xsl as).length ≤ (xm f).2.2.2.1 := by
    intro as' rest' hh
    unfold xcall at hh
    split at hh
    · rename_i hc
      cases hh
      simp only [Bool.and_eq_true, decide_eq_true_eq] at hc
      exact ⟨rfl, hc.2⟩
    · cases hh
  unfold xinv at h
  simp only at h
  repeat' split at h
  all_goals first | (cases h; done) | exact key h
theorem xsl_len (G : xP) (as : List Value) : (lg_sl (as.map (xv G))).length = (xsl as).length := by
  induction as with
  | nil => rfl
  | cons a r ih =>
    simp only [lg_sl, xsl, List.map_cons, List.flatMap_cons, List.length_append] at ih ⊢
    rw [ih, xv_cat]
    split <;> rfl
theorem xsl_args (G : xP) : ∀ (as : List Value) (i k : Nat) (v : Value) (tail : List Value), (xsl as)[k]? = some v → xlv (xsl as ++ tail) k v = true → (i + k, xv G v) ∈ lv_args i (as.map (xv G)) := by
  intro as
  induction as with
  | nil => intro i k v tail h; simp [xsl] at h
  | cons a r ih =>
    intro i k v tail h hv
    simp only [List.map_cons, lv_args, xv_cat]
    by_cases hc : a.category = 2
    · have e : xsl (a :: r) = a :: xmk :: xsl r := by simp [xsl, hc]
      rw [e] at h hv
      rw [if_pos hc]
      match k, h, hv with
      | 0, h, hv => cases h; simp
      | 1, h, hv => cases h; simp [xlv, xmk] at hv
      | k + 2, h, hv =>
        have := ih (i + 2) k v tail (by simpa using h) (by
          cases v <;> simp only [xlv] at hv ⊢ <;> simpa using hv)
        rw [show i + (k + 2) = i + 2 + k by omega]
        exact List.mem_cons_of_mem _ this
    · have e : xsl (a :: r) = a :: xsl r := by simp [xsl, hc]
      rw [e] at h hv
      rw [if_neg hc]
      match k, h, hv with
      | 0, h, hv => cases h; simp
      | k + 1, h, hv =>
        have := ih (i + 1) k v tail (by simpa using h) (by
          cases v <;> simp only [xlv] at hv ⊢ <;> simpa using hv)
        rw [show i + (k + 1) = i + 1 + k by omega]
        exact List.mem_cons_of_mem _ this
theorem xL_entry (G : xP) {f : Nat} {as : List Value} (hlen : (xsl as).length ≤ (xm f).2.2.2.1) : xL G (xent f as) ((lg_sl (as.map (xv G)) ++ List.replicate ((xm f).2.2.2.1 - (lg_sl (as.map (xv G))).length) Slot.unset).toArray) (xm f).2.2.2.1 := by
  have h := lv_entry (as.map (xv G)) (n := (xm f).2.2.2.1) (by rw [xsl_len]; exact hlen)
  refine ⟨by simp [xent]; omega, h.1, h.2.1, fun k v hk hv => ?_⟩
  have hk2 : (xsl as)[k]? = some v := by
    unfold xent at hk
    by_cases hb : k < (xsl as).length
    · rw [List.getElem?_append_left hb] at hk
      exact hk
    · rw [List.getElem?_append_right (by omega), List.getElem?_replicate] at hk
      split at hk
      · cases hk; simp [xlv, xmk] at hv
      · cases hk
  have := xsl_args G as 0 k v _ hk2 hv
  rw [Nat.zero_add] at this
  exact h.2.2 _ this
theorem xit_f {c i kd f q : Nat} (h : xIT.lookup (c * 1000 + i) = some (kd, f, q)) : f < 239 := by
  have := xit_at h
  simp only [xitok, Bool.and_eq_true, decide_eq_true_eq] at this
  exact this.1
/-- from anywhere in a method's run to its end -/
def xFrame (G : xP) (n : Nat) : Prop := ∀ (l : Launch) (d mid pc : Nat) (loc st : List Value) (μ : xM) (v : Option Value) (μ' : xM), xrun n d mid pc loc st μ = some (v, μ') →
  ∀ (p : Program) (e : Env) (R : Room) (s : State) (m : MethodId) (args : Array Value) (below : List Frame) (meth : Method) (c : Code) (H : Heap) (locs : List Loc) (cells slots : Nat) (Q : State → Prop) (ls : Array Slot),
    xCx G p s m args meth c mid → xRel G μ H → va_S (xA G) s.heap H locs → xL G loc ls (xm mid).2.2.2.1 → s.heap.size + cells = G.1 0 + (μ.1.length - 2) → 2 ≤ μ.1.length → d + 1 ≤ R.frames → 60 * (d + 1) ≤ R.locals → cells + (μ'.1.length - μ.1.length) ≤ R.cells → slots + (xns μ' - xns μ) ≤ R.slots →
    (∀ (pcR : Nat) (locR stR : List Value) (lsR : Array Slot) (H1 : Heap) (locs1 : List Loc), xstep mid pcR locR stR μ' = some (.inr (.inl v)) → xRel G μ' H1 → va_S (xA G) s.heap H1 locs1 → W p l e R s m args below meth c H1 locs1 (cells + (μ'.1.length - μ.1.length)) (slots + (xns μ' - xns μ)) Q (F0 m pcR lsR (stR.map (xv G)))) →
    W p l e R s m args below meth c H locs cells slots Q (F0 m pc ls (st.map (xv G)))
theorem xcode {mid pc len : Nat} {ins : Instr} (hm : mid < 242) (h : (xC mid).lookup pc = some (ins, len)) : decode (xm mid).2.2.1 pc = .ok (ins, len) ∧ (len = xlen ins ∨ xswitch ins = true) ∧ xidx ins = true := by
  have h1 := List.all_eq_true.mp (xc_all mid hm) _ (xlk_mem h)
  have h2 := List.all_eq_true.mp (xi_all mid hm) _ (xlk_mem h)
  simp only [Bool.and_eq_true, Bool.or_eq_true, decide_eq_true_eq] at h1
  exact ⟨h1.1, h1.2, h2⟩
/-- a return instruction's end, as a contract has it -/
theorem xret_sound {G : xP} {p : Program} {l : Launch} {e : Env} {R : Room} {s : State} {m : MethodId} {args : Array Value} {below : List Frame} {meth : Method} {c : Code} {H : Heap} {locs : List Loc} {cells slots : Nat} {mid pc : Nat} {ls : Array Slot} {μ' : xM} {v : Option Value} {loc st : List Value}
    (C : xCx G p s m args meth c mid) (hr : meth.sig.returnType = (xm mid).2.2.2.2.1) (hlocks : meth.locks = false) (h : xstep mid pc loc st μ' = some (.inr (.inl v))) (hR : xRel G μ' H) (hS : va_S (xA G) s.heap H locs) : W p l e R s m args below meth c H locs cells slots (MQ below (xQc G v μ') args s cells slots (xA G)) (F0 m pc ls (st.map (xv G))) := by
  obtain ⟨hx, hb, -, -, -, -, -, -, hm⟩ := C
  have hq : ∀ (w : Option Value), w = v.map (xv G) → ∀ t : State, t.heap = H → s.WarmedH t.vm → xQc G v μ' args s (.returned w) t := by
    intro w hw t ht _
    exact ⟨⟨by rw [hw], by rw [ht]; exact hR⟩, hS.F ht⟩
  unfold xstep at h
  split at h
  · rename_i ins len hc
    obtain ⟨hd, hlen, -⟩ := xcode hm hc
    unfold xins at h
    split at h
    · cases h
    · split at h
      · rename_i hj
        cases h
        exact absurd hj xjump_inl
      · split at h
        · rename_i hj
          cases h
          exact absurd hj xheap_inl
        · unfold xcalls at h
          split at h
          · repeat' split at h
            all_goals first | (cases h; done) | (obtain ⟨_, _, ee⟩ := xinv_out h; cases ee)
          · repeat' split at h
            all_goals first | (cases h; done) | (obtain ⟨_, _, ee⟩ := xinv_out h; cases ee) | (obtain ⟨_, _, _, _, ee, _⟩ := xarc_ext h; cases ee)
          · repeat' split at h
            all_goals first | (cases h; done) | (obtain ⟨_, _, ee⟩ := xinv_out h; cases ee)
          · have hl1 : len = 1 := by rcases hlen with hh | hh; exact hh; cases hh
            subst hl1
            split at h
            · cases h
              exact W.iret hx hb (hr.trans ‹(xm mid).2.2.2.2.1 = some .int›) (hq _ rfl) hS.2.2 hd hlocks
            · split at h
              · rename_i h01
                cases h
                exact W.zret (ty := .boolean) hx hb (hr.trans ‹(xm mid).2.2.2.2.1 = some .boolean›) (by rcases h01 with rfl | rfl <;> rfl) (hq _ rfl) hS.2.2 hd hlocks
              · cases h
            · cases h
          · have hl1 : len = 1 := by rcases hlen with hh | hh; exact hh; cases hh
            subst hl1
            split at h
            · cases h
              exact W.lret hx hb (hr.trans ‹(xm mid).2.2.2.2.1 = some .long›) (hq _ rfl) hS.2.2 hd hlocks
            · cases h
          · have hl1 : len = 1 := by rcases hlen with hh | hh; exact hh; cases hh
            subst hl1
            split at h
            · cases h
              exact W.aret hx hb (hr.trans ‹(xm mid).2.2.2.2.1 = some (.object _)›) (Or.inl ⟨_, rfl⟩) (Or.inr ⟨_, rfl⟩) (hq _ rfl) hS.2.2 hd hlocks
            · cases h
              exact W.aret hx hb (hr.trans ‹(xm mid).2.2.2.2.1 = some (.object _)›) (Or.inl ⟨_, rfl⟩) (Or.inl rfl) (hq _ rfl) hS.2.2 hd hlocks
            · cases h
          · have hl1 : len = 1 := by rcases hlen with hh | hh; exact hh; cases hh
            subst hl1
            split at h
            · cases h
              exact W.vret hx hb (hr.trans ‹(xm mid).2.2.2.2.1 = none›) (hq _ rfl) hS.2.2 hd hlocks
            · cases h
          · cases h
  · cases h
/-- a method's contract out of its run -/
theorem xmet {G : xP} {n : Nat} (hF : xFrame G n) (l : Launch) {d f : Nat} {as : List Value} {μ μ' : xM} {v : Option Value} (hf : f < 239) (hlen : (xsl as).length ≤ (xm f).2.2.2.1) (h : xrun n d f 0 (xent f as) [] μ = some (v, μ')) :
    Met l (xyn f) (xWs f) (xroom d (μ'.1.length - μ.1.length) (xns μ' - xns μ)) (xPc G as μ) (xQc G v μ') (μ'.1.length - μ.1.length) (xns μ' - xns μ) (xA G) := by
  obtain ⟨hcd, hini, hpl, hyy, hsig, hcls, hml40, hstat, hinst⟩ := xmeth hf
  refine Met.ofW (cc := (xm f).2.2.1) (maxL := (xm f).2.2.2.1) (ret := (xm f).2.2.2.2.1) hpl rfl ?_
  intro p e s m args below meth c s₁ B hml hv
  obtain ⟨rfl, hK, hO, hR, hsz, h2⟩ := hv
  have hts := atoms_spec (ws := xWs f) B.pre
  have hown : s.vm.findClass (xyn f).cls = some m.cls := findClass_of_methodNamed B.named
  rw [hcls] at hown
  have C : xCx G p s m (as.map (xv G)).toArray meth c f := ⟨B.exec, B.bytes, hml, hown, fun w hw => hts w (List.mem_cons_of_mem _ hw), hK, hO, fun hh => (name_of_methodNamed B.named B.method).1.trans hh, by omega⟩
  rw [lg_entry_eq]
  have hfr := hF l d f 0 (xent f as) [] μ v μ' h p e (headSpec (xWs f) (xroom d (μ'.1.length - μ.1.length) (xns μ' - xns μ))).room s m _ below meth c s.heap [] 0 0 (MQ below (xQc G v μ') (as.map (xv G)).toArray s (μ'.1.length - μ.1.length) (xns μ' - xns μ) (xA G)) _ C hR va_S.rf (xL_entry G hlen) (by rw [hsz]; rfl) h2 (Nat.le_refl _) (Nat.le_refl _) (by rw [Nat.zero_add]; exact Nat.le_refl _) (by rw [Nat.zero_add]; exact Nat.le_refl _) (fun pcR locR stR lsR H1 locs1 hst hR1 hS1 => by
    rw [Nat.zero_add, Nat.zero_add]
    exact xret_sound C B.returns B.notSynchronized hst hR1 hS1)
  exact hfr
