/-! soundness: the induction -/
theorem xcalls_next {G : xP} {p : Program} {l : Launch} {e : Env} {R : Room} {s : State} {m : MethodId} {args : Array Value} {below : List Frame} {meth : Method} {c : Code} {H : Heap} {locs : List Loc} {cells slots : Nat} {Q : State → Prop} {mid pc : Nat} {ls : Array Slot} {μ : xM}
    (C : xCx G p s m args meth c mid) (hR : xRel G μ H) (hS : va_S (xA G) s.heap H locs) {ins : Instr} {loc st loc' st' : List Value} {pc' len : Nat} {μ' : xM} (hl : xL G loc ls (xm mid).2.2.2.1)
    (h : xcalls mid (xm mid).1 ins pc loc st μ = some (.inl (pc', loc', st', μ'))) (hd : decode (xm mid).2.2.1 pc = .ok (ins, len)) (hlen : len = xlen ins ∨ xswitch ins = true) (hi : xidx ins = true) (hRf : 1 ≤ R.frames) (hRl : 60 ≤ R.locals) (hrc : cells ≤ R.cells) (hrs : slots ≤ R.slots)
    (kk : ∀ (H1 : Heap) (locs1 : List Loc), loc = loc' → xRel G μ' H1 → va_S (xA G) s.heap H1 locs1 → μ'.1 = μ.1 → W p l e R s m args below meth c H1 locs1 cells slots Q (F0 m pc' ls (st'.map (xv G)))) : W p l e R s m args below meth c H locs cells slots Q (F0 m pc ls (st.map (xv G))) := by
  have hcatS : ∀ r : List Value, xcat r = true → ((r.map (xv G)).map fun v => v.category).sum ≤ 8 := by
    intro r hr
    rw [List.map_map, show ((fun v => Value.category v) ∘ xv G) = fun v => Value.category v from funext fun w => xv_cat G w]
    simpa [xcat] using hr
  unfold xcalls at h
  split at h
  · repeat' split at h
    all_goals first | (cases h; done) | (obtain ⟨_, _, ee⟩ := xinv_out h; cases ee)
  · rename_i i
    have hl3 : len = 3 := by rcases hlen with hh | hh; exact hh; cases hh
    subst hl3
    split at h
    · rename_i kd f q hlk
      split at h
      · rename_i hk7
        subst hk7
        exact xarc_sound C hR hS hl (of_decide_eq_true hi) hlk h hd hRf hRl kk
      · split at h
        · rename_i hk8
          subst hk8
          split at h
          · rename_i y x r
            split at h
            · rename_i hcat
              obtain ⟨rfl, rfl, rfl, rfl⟩ := xnx_at h
              have hit := xit_at hlk
              simp only [xitok, Bool.and_eq_true, decide_eq_true_eq] at hit
              have hg := xgood_mem hit.2
              rw [xkey1 _ (of_decide_eq_true hi), xkey2 _ (of_decide_eq_true hi)] at hg
              obtain ⟨hx, hb, hml, hown, hts, hK, hO, -⟩ := C
              have hmm := xmath_ok
              simp only [Bool.and_eq_true, List.contains_iff_mem] at hmm
              obtain ⟨⟨⟨⟨⟨⟨⟨⟨⟨a1, a2⟩, a3⟩, a4⟩, a5⟩, a6⟩, a7⟩, a8⟩, a9⟩, b1⟩ := hmm
              exact va_mmax hx hb (hml.trans hl.2.1.symm) hown (hts _ (xgw hg.1 hg.2)) (hts _ (xgw a1 a2)) (hts _ (xgw a5 a6)) (hts _ (xgw a7 a8)) hRf (by have := hcatS _ hcat; omega) hrc hrs hd (kk H locs rfl hR hS rfl)
            · cases h
          · cases h
        · split at h
          · rename_i hk9
            subst hk9
            split at h
            · rename_i y x r
              split at h
              · rename_i hcat
                obtain ⟨rfl, rfl, rfl, rfl⟩ := xnx_at h
                have hit := xit_at hlk
                simp only [xitok, Bool.and_eq_true, decide_eq_true_eq] at hit
                have hg := xgood_mem hit.2
                rw [xkey1 _ (of_decide_eq_true hi), xkey2 _ (of_decide_eq_true hi)] at hg
                obtain ⟨hx, hb, hml, hown, hts, hK, hO, -⟩ := C
                have hmm := xmath_ok
                simp only [Bool.and_eq_true, List.contains_iff_mem] at hmm
                obtain ⟨⟨⟨⟨⟨⟨⟨⟨⟨a1, a2⟩, a3⟩, a4⟩, a5⟩, a6⟩, a7⟩, a8⟩, a9⟩, b1⟩ := hmm
                exact va_mmin hx hb (hml.trans hl.2.1.symm) hown (hts _ (xgw hg.1 hg.2)) (hts _ (xgw a3 a4)) (hts _ (xgw a5 a6)) (hts _ (xgw a9 b1)) hRf (by have := hcatS _ hcat; omega) hrc hrs hd (kk H locs rfl hR hS rfl)
              · cases h
            · cases h
          · split at h
            · obtain ⟨_, _, ee⟩ := xinv_out h; cases ee
            · cases h
    · cases h
  · rename_i i
    have hl3 : len = 3 := by rcases hlen with hh | hh; exact hh; cases hh
    subst hl3
    split at h
    · rename_i kd f q hlk
      split at h
      · rename_i hk6
        subst hk6
        split at h
        · rename_i x r
          split at h
          · rename_i hcat
            obtain ⟨rfl, rfl, rfl, rfl⟩ := xnx_at h
            have hit := xit_at hlk
            simp only [xitok, Bool.and_eq_true, decide_eq_true_eq] at hit
            have hg := xgood_mem hit.2
            rw [xkey1 _ (of_decide_eq_true hi), xkey2 _ (of_decide_eq_true hi)] at hg
            obtain ⟨hx, hb, hml, hown, hts, hK, hO, -⟩ := C
            have hmm := xobj_ok
            simp only [Bool.and_eq_true, List.contains_iff_mem] at hmm
            obtain ⟨⟨⟨a1, a2⟩, a3⟩, a4⟩ := hmm
            have h0 := lv_room (m := m) (pc := pc) (ls := ls) (rest := (Value.ref x :: r).map (xv G)) (hcatS _ hcat)
            exact W.objInit hx hb hown (hts _ (xgw hg.1 hg.2)) (hts _ (xgw a1 a2)) (hts _ (xgw a3 a4)) rfl (hl.2.1.trans hml.symm) rfl hd hRf (by omega) (kk H locs rfl hR hS rfl)
          · cases h
        · cases h
      · split at h
        · obtain ⟨_, _, ee⟩ := xinv_out h; cases ee
        · cases h
    · cases h
  · repeat' split at h
    all_goals (cases h; done)
  · repeat' split at h
    all_goals (cases h; done)
  · repeat' split at h
    all_goals (cases h; done)
  · repeat' split at h
    all_goals (cases h; done)
  · cases h
theorem xcalls_call {mid c : Nat} {ins : Instr} {pc f : Nat} {loc st as rest : List Value} {μ : xM} (h : xcalls mid c ins pc loc st μ = some (.inr (.inr (f, as, rest)))) :
    ∃ i kd q, xIT.lookup (c * 1000 + i) = some (kd, f, q) ∧ xinv kd f pc loc st μ = some (.inr (.inr (f, as, rest))) ∧ ((kd ≤ 1 ∧ ins = .invokevirtual i) ∨ ((kd = 2 ∨ kd = 3) ∧ ins = .invokestatic i) ∨ ((kd = 4 ∨ kd = 5) ∧ ins = .invokespecial i)) := by
  unfold xcalls at h
  split at h
  · rename_i i
    split at h
    · rename_i kd f0 q hlk
      split at h
      · rename_i hk
        have e := (xinv_len h).1
        subst e
        exact ⟨i, kd, q, hlk, h, Or.inl ⟨hk, rfl⟩⟩
      · cases h
    · cases h
  · rename_i i
    split at h
    · rename_i kd f0 q hlk
      split at h
      · obtain ⟨_, _, _, _, ee, _⟩ := xarc_ext h; cases ee
      · split at h
        · repeat' split at h
          all_goals (cases h; done)
        · split at h
          · repeat' split at h
            all_goals (cases h; done)
          · split at h
            · rename_i hk
              have e := (xinv_len h).1
              subst e
              exact ⟨i, kd, q, hlk, h, Or.inr (Or.inl ⟨hk, rfl⟩)⟩
            · cases h
    · cases h
  · rename_i i
    split at h
    · rename_i kd f0 q hlk
      split at h
      · repeat' split at h
        all_goals (cases h; done)
      · split at h
        · rename_i hk
          have e := (xinv_len h).1
          subst e
          exact ⟨i, kd, q, hlk, h, Or.inr (Or.inr ⟨hk, rfl⟩)⟩
        · cases h
    · cases h
  · repeat' split at h
    all_goals (cases h; done)
  · repeat' split at h
    all_goals (cases h; done)
  · repeat' split at h
    all_goals (cases h; done)
  · repeat' split at h
    all_goals (cases h; done)
  · cases h
theorem xframe (G : xP) : ∀ n, xFrame G n := by
  intro n
  induction n with
  | zero => intro l d mid pc loc st μ v μ' h; simp [xrun] at h
  | succ n ih =>
    intro l d mid pc loc st μ v μ' h p e R s m args below meth c H locs cells slots Q ls C hR hS hL hN h2 hRf hRl hrc hrs kend
    simp only [xrun] at h
    cases hst : xstep mid pc loc st μ with
    | none => rw [hst] at h; cases h
    | some q =>
      rw [hst] at h
      rcases q with ⟨pc1, loc1, st1, μ1⟩ | v1 | ⟨f, as, rest⟩
      · -- a step
        have hg1 := xgrow (xstep_ext hst)
        have hg2 := xgrow (xrun_ext _ _ _ _ _ _ _ _ _ h)
        have go : ∀ (H1 : Heap) (locs1 : List Loc) (ls1 : Array Slot), xRel G μ1 H1 → va_S (xA G) s.heap H1 locs1 → xL G loc1 ls1 (xm mid).2.2.2.1 → W p l e R s m args below meth c H1 locs1 (cells + (μ1.1.length - μ.1.length)) (slots + (xns μ1 - xns μ)) Q (F0 m pc1 ls1 (st1.map (xv G))) := by
          intro H1 locs1 ls1 hR1 hS1 hL1
          refine ih l d mid pc1 loc1 st1 μ1 v μ' h p e R s m args below meth c H1 locs1 _ _ Q ls1 C hR1 hS1 hL1 (by omega) (by omega) hRf hRl (by omega) (by omega) (fun pcR locR stR lsR H2 locs2 a1 a2 a3 => ?_)
          have := kend pcR locR stR lsR H2 locs2 a1 a2 a3
          rw [show cells + (μ'.1.length - μ.1.length) = cells + (μ1.1.length - μ.1.length) + (μ'.1.length - μ1.1.length) by omega, show slots + (xns μ' - xns μ) = slots + (xns μ1 - xns μ) + (xns μ' - xns μ1) by omega] at this
          exact this
        have hC := C
        obtain ⟨hx, hb, hml, hown, hts, hK, hO, hnm, hm⟩ := hC
        unfold xstep at hst
        split at hst
        · rename_i ins len hc
          obtain ⟨hd, hlen, hi⟩ := xcode hm hc
          unfold xins at hst
          split at hst
          · rename_i loc2 st2 hp
            obtain ⟨rfl, rfl, rfl, rfl⟩ := xnx_at hst
            have hsw : len = xlen ins := by
              rcases hlen with hh | hh
              · exact hh
              · cases ins <;> first | (cases hh; done) | (simp [xpure] at hp)
            subst hsw
            exact xpure_sound hx hb hown (fun w w1 w2 => hts w (xgw w1 w2)) hp hd hi hL (fun ls' hL' => xkeep (μ := μ) rfl (go H locs ls' hR hS hL'))
          · split at hst
            · rename_i hj
              cases hst
              exact xjump_sound hx hb hj hd hlen (fun e1 e2 => by
                subst e1; subst e2
                exact xkeep (μ := μ) rfl (go H locs ls hR hS hL))
            · split at hst
              · rename_i hj
                cases hst
                have hsw : len = xlen ins := by
                  rcases hlen with hh | hh
                  · exact hh
                  · cases ins <;> first | (cases hh; done) | (simp [xheap] at hj)
                subst hsw
                exact xheap_sound C hR hS hN h2 hj hd hi (by omega) (by omega) (fun H1 locs1 e1 hR1 hS1 => by
                  subst e1
                  exact go H1 locs1 ls hR1 hS1 hL)
              · exact xcalls_next C hR hS hL hst hd hlen hi (by omega) (by omega) (by omega) (by omega) (fun H1 locs1 e1 hR1 hS1 hsame => by
                  subst e1
                  exact xkeep (μ := μ) hsame (go H1 locs1 ls hR1 hS1 hL))
        · cases hst
      · -- the end
        cases h
        have := kend pc loc st ls H locs hst hR hS
        exact xkeep (μ := μ) rfl this
      · -- a call
        cases d with
        | zero => cases h
        | succ d' =>
          simp only at h
          cases h1 : xrun n d' f 0 (xent f as) [] μ with
          | none => rw [h1] at h; cases h
          | some q =>
            obtain ⟨v1, μ1⟩ := q
            rw [h1] at h
            simp only at h
            have hg1 := xgrow (xrun_ext _ _ _ _ _ _ _ _ _ h1)
            have hg2 := xgrow (xrun_ext _ _ _ _ _ _ _ _ _ h)
            have hm := C.2.2.2.2.2.2.2.2
            unfold xstep at hst
            split at hst
            · rename_i ins len hc
              obtain ⟨hd, hlen, hi⟩ := xcode hm hc
              unfold xins at hst
              split at hst
              · cases hst
              · split at hst
                · rename_i hj
                  cases hst
                  exact absurd hj xjump_inl
                · split at hst
                  · rename_i hj
                    cases hst
                    exact absurd hj xheap_inl
                  · obtain ⟨i, kd, q, hlk, hinv, hk⟩ := xcalls_call hst
                    have hi' : i < 1000 := by
                      rcases hk with ⟨-, rfl⟩ | ⟨-, rfl⟩ | ⟨-, rfl⟩ <;> exact of_decide_eq_true hi
                    have hl3 : len = 3 := by
                      rcases hk with ⟨-, rfl⟩ | ⟨-, rfl⟩ | ⟨-, rfl⟩ <;> (rcases hlen with hh | hh; exact hh; cases hh)
                    subst hl3
                    refine xcall_sound C hR hS hN h2 hL hi' hlk hinv hk hd (xmet ih l (xit_f hlk) (xinv_len hinv).2 h1) (by omega) (by omega) (by omega) (by omega) (fun H1 locs1 hR1 hS1 => ?_)
                    refine ih l (d' + 1) mid (pc + 3) loc (v1.toList ++ rest) μ1 v μ' h p e R s m args below meth c H1 locs1 _ _ Q ls C hR1 hS1 hL (by omega) (by omega) hRf hRl (by omega) (by omega) (fun pcR locR stR lsR H2 locs2 a1 a2 a3 => ?_)
                    have := kend pcR locR stR lsR H2 locs2 a1 a2 a3
                    rw [show cells + (μ'.1.length - μ.1.length) = cells + (μ1.1.length - μ.1.length) + (μ'.1.length - μ1.1.length) by omega, show slots + (xns μ' - xns μ) = slots + (xns μ1 - xns μ) + (xns μ' - xns μ1) by omega] at this
                    exact this
            · cases hst
