/-! soundness: a whole run -/
section XS2
variable {p : Program} {l : Launch} {e : Env} {R : Room} {s : State} {m : MethodId} {args : Array Value} {below : List Frame} {meth : Method} {c : Code} {H : Heap} {locs : List Loc} {cells slots : Nat} {Q : State → Prop} {G : xP} {pc mid : Nat} {ls : Array Slot} {μ : xM}
theorem xarc_sound (C : xCx G p s m args meth c mid) (hR : xRel G μ H) (hS : va_S (xA G) s.heap H locs) {loc st loc' st' : List Value} {pc' i f q : Nat} {μ' : xM} (hl : xL G loc ls (xm mid).2.2.2.1) (hi : i < 1000) (hlk : xIT.lookup ((xm mid).1 * 1000 + i) = some (7, f, q))
    (h : xarc pc loc st μ = some (.inl (pc', loc', st', μ'))) (hd : decode (xm mid).2.2.1 pc = .ok (.invokestatic i, 3)) (hRf : 1 ≤ R.frames) (hRl : 60 ≤ R.locals)
    (kk : ∀ (H1 : Heap) (locs1 : List Loc), loc = loc' → xRel G μ' H1 → va_S (xA G) s.heap H1 locs1 → μ'.1 = μ.1 → W p l e R s m args below meth c H1 locs1 cells slots Q (F0 m pc' ls (st'.map (xv G)))) : W p l e R s m args below meth c H locs cells slots Q (F0 m pc ls (st.map (xv G))) := by
  unfold xarc at h
  split at h
  · rename_i n dp a1 sp a0 rest
    split at h
    · rename_i n0 n1 hs0 hs1
      split at h
      · rename_i hc
        obtain ⟨rfl, rfl, rfl, rfl⟩ := xnx_at h
        obtain ⟨c1, c2, c3, c4, c5, c6⟩ := hc
        have hit := xit_at hlk
        simp only [xitok, Bool.and_eq_true, decide_eq_true_eq] at hit
        have hg := xgood_mem hit.2
        rw [xkey1 _ hi, xkey2 _ hi] at hg
        obtain ⟨hx, hb, hml, hown, hts, hK, hO, -⟩ := C
        obtain ⟨h3, hw0⟩ := xarrW hR hs0 (by omega)
        obtain ⟨h4, hw1⟩ := xarrW hR hs1 (by omega)
        refine va_copyi (ty := .int) hx hb (hml.trans hl.2.1.symm) hown (hts _ (xgw hg.1 hg.2)) (hts _ xarr_in.2.2.2.2.2.1) (hts _ xarr_in.2.2.2.2.2.2.1) (hts _ xarr_in.2.2.2.2.2.2.2) hK.1 hR.2.2.2.2.2 (xW_D G μ) hS (a0 - 2) (a1 - 2) 0 0 (f := μ.2.1 a0) (g := μ.2.1 a1) hw0 hw1 rfl rfl rfl c1 c2 c3 c4 c5 (fun _ _ => rfl) hRf ?_ hd (fun H1 locs1 hP1 _ hS1 => kk H1 locs1 rfl (xRel_put hR h4 hs1 rfl (fun b j hb => by simp [xcpy, hb]) (fun _ _ _ => rfl) (fun _ _ _ => rfl) ?_ hP1) hS1 rfl)
        · have : ((rest.map (xv G)).map fun v => v.category).sum ≤ 8 := by
            rw [List.map_map, show ((fun v => Value.category v) ∘ xv G) = fun v => Value.category v from funext fun w => xv_cat G w]
            simpa [xcat] using c6
          have h0 : nativeFrameWords "java/lang/System" "arraycopy" 5 = 7 := by decide +kernel
          rw [h0]
          omega
        · have e : xcpy μ.2.1 a0 sp.toNatClampNeg a1 dp.toNatClampNeg n.toNatClampNeg a1 = va_cpy (μ.2.1 a0) (μ.2.1 a1) sp.toNatClampNeg dp.toNatClampNeg n.toNatClampNeg := by
            funext j
            simp [xcpy, va_cpy]
          show (Sum.inl (G.2.2.1 100, n1, Sum.inl (xcpy μ.2.1 a0 sp.toNatClampNeg a1 dp.toNatClampNeg n.toNatClampNeg a1)) : va_E) = _
          rw [e]
      · cases h
    · cases h
  · cases h
end XS2
theorem xinv_out {kd f pc : Nat} {loc st : List Value} {μ : xM} {r : xR1} (h : xinv kd f pc loc st μ = some r) : ∃ as rest, r = .inr (.inr (f, as, rest)) := by
  unfold xinv xcall at h
  simp only at h
  repeat' split at h
  all_goals first | (cases h; done) | (cases h; exact ⟨_, _, rfl⟩)
theorem xarc_ext {pc : Nat} {loc st : List Value} {μ : xM} {r : xR1} (h : xarc pc loc st μ = some r) : ∃ pc' loc' st' μ', r = .inl (pc', loc', st', μ') ∧ μ'.1 = μ.1 := by
  unfold xarc at h
  repeat' split at h
  all_goals first | (cases h; done) | (cases h; exact ⟨_, _, _, _, rfl, rfl⟩)
theorem xcalls_ext {mid c : Nat} {ins : Instr} {pc : Nat} {loc st : List Value} {μ : xM} {pc' : Nat} {loc' st' : List Value} {μ' : xM} (h : xcalls mid c ins pc loc st μ = some (.inl (pc', loc', st', μ'))) : μ'.1 = μ.1 := by
  unfold xcalls at h
  repeat' split at h
  all_goals first
    | (cases h; done)
    | (obtain ⟨_, _, e⟩ := xinv_out h; cases e; done)
    | (obtain ⟨_, _, _, _, e, e2⟩ := xarc_ext h; cases e; exact e2)
    | (obtain ⟨-, -, -, rfl⟩ := xnx_at h; rfl)
theorem xjump_ext {ins : Instr} {pc : Nat} {loc st : List Value} {μ : xM} {pc' : Nat} {loc' st' : List Value} {μ' : xM} (h : xjump ins pc loc st μ = some (.inl (pc', loc', st', μ'))) : μ = μ' := by
  unfold xjump at h
  repeat' split at h
  all_goals first
    | (cases h; done)
    | exact (xgo_at h).2.2.2
    | exact (xbr_at h).2.2.1
    | exact (xnx_at h).2.2.2
theorem xstep_ext {mid pc : Nat} {loc st : List Value} {μ : xM} {pc' : Nat} {loc' st' : List Value} {μ' : xM} (h : xstep mid pc loc st μ = some (.inl (pc', loc', st', μ'))) : ∃ t, μ'.1 = μ.1 ++ t := by
  unfold xstep at h
  split at h
  · unfold xins at h
    split at h
    · exact ⟨[], by rw [← (xnx_at h).2.2.2]; simp⟩
    · split at h
      · rename_i hj
        cases h
        exact ⟨[], by rw [← xjump_ext hj]; simp⟩
      · split at h
        · rename_i hj
          cases h
          exact xheap_ext hj
        · exact ⟨[], by rw [xcalls_ext h]; simp⟩
  · cases h
theorem xrun_ext : ∀ (n d mid pc : Nat) (loc st : List Value) (μ : xM) (v : Option Value) (μ' : xM), xrun n d mid pc loc st μ = some (v, μ') → ∃ t, μ'.1 = μ.1 ++ t := by
  intro n
  induction n with
  | zero => intro d mid pc loc st μ v μ' h; simp [xrun] at h
  | succ n ih =>
    intro d mid pc loc st μ v μ' h
    simp only [xrun] at h
    cases e : xstep mid pc loc st μ with
    | none => rw [e] at h; cases h
    | some q =>
      rw [e] at h
      rcases q with ⟨pc', loc', st', μ1⟩ | v1 | ⟨f, as, rest⟩
      · obtain ⟨t1, e1⟩ := xstep_ext e
        obtain ⟨t2, e2⟩ := ih _ _ _ _ _ _ _ _ h
        exact ⟨t1 ++ t2, by rw [e2, e1, List.append_assoc]⟩
      · cases h; exact ⟨[], by simp⟩
      · cases d with
        | zero => cases h
        | succ d' =>
          simp only at h
          cases h1 : xrun n d' f 0 (xent f as) [] μ with
          | none => rw [h1] at h; cases h
          | some q =>
            rw [h1] at h
            obtain ⟨t1, e1⟩ := ih _ _ _ _ _ _ _ _ h1
            obtain ⟨t2, e2⟩ := ih _ _ _ _ _ _ _ _ h
            exact ⟨t1 ++ t2, by rw [e2, e1, List.append_assoc]⟩
theorem xgrow {μ μ' : xM} (h : ∃ t, μ'.1 = μ.1 ++ t) : μ.1.length ≤ μ'.1.length ∧ xns μ ≤ xns μ' := by
  obtain ⟨t, h⟩ := h
  constructor
  · rw [h, List.length_append]; omega
  · unfold xns; rw [h, List.map_append, List.sum_append]; omega
