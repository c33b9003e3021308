/-! soundness: what needs no cell -/
def xidx : Instr → Bool
  | .ldc i => decide (i < 1000) | .ldc_w i => decide (i < 1000) | .ldc2_w i => decide (i < 1000) | .getfield i => decide (i < 1000) | .putfield i => decide (i < 1000) | .getstatic i => decide (i < 1000) | .new i => decide (i < 1000) | .anewarray i => decide (i < 1000)
  | .invokevirtual i => decide (i < 1000) | .invokestatic i => decide (i < 1000) | .invokespecial i => decide (i < 1000)
  | _ => true
theorem xi_all : ∀ f, f < 242 → ((xC f).all fun e => xidx e.2.1) = true := by decide +kernel
theorem xlk_mem {β : Type} {l : List (Nat × β)} {k : Nat} {v : β} (h : l.lookup k = some v) : (k, v) ∈ l := by
  induction l with
  | nil => simp at h
  | cons a r ih =>
    rw [List.lookup_cons] at h
    cases e : (k == a.1) with
    | true =>
      rw [e] at h
      have : k = a.1 := eq_of_beq e
      simp only [Option.some.injEq] at h
      rw [this, ← h]
      exact List.mem_cons_self
    | false => rw [e] at h; exact List.mem_cons_of_mem _ (ih h)
theorem xgood_mem {w : Cond} {q : Nat} (h : xgood w q = true) : w ∈ lw_tbl ∧ goodWord w = true := by
  simp only [xgood, Bool.and_eq_true, decide_eq_true_eq] at h
  exact ⟨List.mem_of_getElem? h.1, h.2⟩
theorem xkey1 (c : Nat) {i : Nat} (h : i < 1000) : (c * 1000 + i) / 1000 = c := by omega
theorem xkey2 (c : Nat) {i : Nat} (h : i < 1000) : (c * 1000 + i) % 1000 = i := by omega
theorem xKI_at {c i : Nat} {v : Int32} {q : Nat} (hi : i < 1000) (h : xKI.lookup (c * 1000 + i) = some (v, q)) : Cond.constant (xR c) i v ∈ lw_tbl ∧ goodWord (Cond.constant (xR c) i v) = true := by
  have h1 := List.all_eq_true.mp xKI_ok _ (xlk_mem h)
  simp only [xkey1 c hi, xkey2 c hi] at h1
  exact xgood_mem h1
theorem xKL_at {c i : Nat} {v : Int64} {q : Nat} (hi : i < 1000) (h : xKL.lookup (c * 1000 + i) = some (v, q)) : Cond.constantLong (xR c) i v ∈ lw_tbl ∧ goodWord (Cond.constantLong (xR c) i v) = true := by
  have h1 := List.all_eq_true.mp xKL_ok _ (xlk_mem h)
  simp only [xkey1 c hi, xkey2 c hi] at h1
  exact xgood_mem h1
section XPURE
variable {p : Program} {l : Launch} {e : Env} {R : Room} {s : State} {m : MethodId} {args : Array Value} {below : List Frame} {meth : Method} {c : Code} {H : Heap} {locs : List Loc} {cells slots : Nat} {Q : State → Prop} {cc : ByteArray} {G : xP} {nL pc : Nat} {ls : Array Slot}
set_option maxHeartbeats 4000000 in
theorem xpure_sound (hx : p.tables.exec = Jvm.exec) (hb : c.code = cc) {cn : Nat} (hown : s.vm.findClass (xR cn) = some m.cls) (hts : ∀ w ∈ lw_tbl, goodWord w = true → w.before args s = true) {ins : Instr} {loc st loc' st' : List Value}
    (h : xpure cn ins loc st = some (loc', st')) (hd : decode cc pc = .ok (ins, xlen ins)) (hi : xidx ins = true) (hl : xL G loc ls nL)
    (kk : ∀ ls', xL G loc' ls' nL → W p l e R s m args below meth c H locs cells slots Q (F0 m (pc + xlen ins) ls' (st'.map (xv G)))) : W p l e R s m args below meth c H locs cells slots Q (F0 m pc ls (st.map (xv G))) := by
  cases ins with
  | iconst n => cases h; exact lv_iconst hx hb hd rfl (kk ls hl)
  | bipush n => cases h; exact lv_bipush hx hb hd rfl (kk ls hl)
  | sipush n => cases h; exact lv_sipush hx hb hd rfl (kk ls hl)
  | lconst n => cases h; exact lv_lconst hx hb hd rfl (kk ls hl)
  | aconst_null => cases h; exact lv_null hx hb hd (kk ls hl)
  | ldc i => 
    simp only [xpure] at h
    split at h
    · rename_i v q hq
      cases h
      have hk := xKI_at (of_decide_eq_true hi) hq
      exact lv_ldc hx hb hown (hts _ hk.1 hk.2) hd (kk ls hl)
    · cases h
  | ldc_w i => 
    simp only [xpure] at h
    split at h
    · rename_i v q hq
      cases h
      have hk := xKI_at (of_decide_eq_true hi) hq
      exact lv_ldcw hx hb hown (hts _ hk.1 hk.2) hd (kk ls hl)
    · cases h
  | ldc2_w i => 
    simp only [xpure] at h
    split at h
    · rename_i v q hq
      cases h
      have hk := xKL_at (of_decide_eq_true hi) hq
      exact lv_ldc2 hx hb hown (hts _ hk.1 hk.2) hd (kk ls hl)
    · cases h
  | iload_n k => 
    simp only [xpure] at h
    split at h
    · rename_i x hq
      cases h
      exact lv_iload_n hx hb hd rfl (hl.2.2.2 _ _ hq rfl) (kk ls hl)
    · cases h
  | iload k => 
    simp only [xpure] at h
    split at h
    · rename_i x hq
      cases h
      exact lv_iload hx hb hd (hl.2.2.2 _ _ hq rfl) (kk ls hl)
    · cases h
  | aload_n k => 
    simp only [xpure] at h
    split at h
    · rename_i x hq
      cases h
      exact lv_aload_n hx hb hd rfl (hl.2.2.2 _ _ hq rfl) (kk ls hl)
    · rename_i hq
      cases h
      exact lv_aload_nN hx hb hd rfl (hl.2.2.2 _ _ hq rfl) (kk ls hl)
    · cases h
  | aload k => 
    simp only [xpure] at h
    split at h
    · rename_i x hq
      cases h
      exact lv_aload hx hb hd (hl.2.2.2 _ _ hq rfl) (kk ls hl)
    · rename_i hq
      cases h
      exact lv_aloadN hx hb hd (hl.2.2.2 _ _ hq rfl) (kk ls hl)
    · cases h
  | lload_n k => 
    simp only [xpure] at h
    split at h
    · rename_i x y hq hq2
      cases h
      exact lv_lload_n hx hb hd rfl (hl.2.2.2 _ _ hq (by simp [xlv, hq2])) (kk ls hl)
    · cases h
  | lload k => 
    simp only [xpure] at h
    split at h
    · rename_i x y hq hq2
      cases h
      exact lv_lload hx hb hd (hl.2.2.2 _ _ hq (by simp [xlv, hq2])) (kk ls hl)
    · cases h
  | istore_n k => 
    simp only [xpure] at h
    split at h
    · rename_i x r
      split at h
      · rename_i hk
        cases h
        rw [hl.1] at hk
        exact lv_istore_n hx hb hd rfl (xpr_has hl) hk rfl (fun ls' h' => kk ls' (xL_st1 hl hk (fun _ => by simp) (fun _ => by simp) h'))
      · cases h
    · cases h
  | istore k => 
    simp only [xpure] at h
    split at h
    · rename_i x r
      split at h
      · rename_i hk
        cases h
        rw [hl.1] at hk
        exact lv_istore hx hb hd (xpr_has hl) hk rfl (fun ls' h' => kk ls' (xL_st1 hl hk (fun _ => by simp) (fun _ => by simp) h'))
      · cases h
    · cases h
  | astore_n k => 
    simp only [xpure] at h
    split at h
    · rename_i x r
      split at h
      · rename_i hk
        cases h
        rw [hl.1] at hk
        exact lv_astore_n hx hb hd rfl (xpr_has hl) hk rfl (fun ls' h' => kk ls' (xL_st1 hl hk (fun _ => by simp) (fun _ => by simp) h'))
      · cases h
    · rename_i r
      split at h
      · rename_i hk
        cases h
        rw [hl.1] at hk
        exact lv_astore_nN hx hb hd rfl (xpr_has hl) hk rfl (fun ls' h' => kk ls' (xL_st1 hl hk (fun _ => by simp) (fun _ => by simp) h'))
      · cases h
    · cases h
  | astore k => 
    simp only [xpure] at h
    split at h
    · rename_i x r
      split at h
      · rename_i hk
        cases h
        rw [hl.1] at hk
        exact lv_astore hx hb hd (xpr_has hl) hk rfl (fun ls' h' => kk ls' (xL_st1 hl hk (fun _ => by simp) (fun _ => by simp) h'))
      · cases h
    · rename_i r
      split at h
      · rename_i hk
        cases h
        rw [hl.1] at hk
        exact lv_astoreN hx hb hd (xpr_has hl) hk rfl (fun ls' h' => kk ls' (xL_st1 hl hk (fun _ => by simp) (fun _ => by simp) h'))
      · cases h
    · cases h
  | lstore_n k => 
    simp only [xpure] at h
    split at h
    · rename_i x r
      split at h
      · rename_i hk
        cases h
        rw [hl.1] at hk
        exact lv_lstore_n hx hb hd rfl (xpr_has hl) hk rfl (fun ls' h' => kk ls' (xL_st2 hl hk h'))
      · cases h
    · cases h
  | lstore k => 
    simp only [xpure] at h
    split at h
    · rename_i x r
      split at h
      · rename_i hk
        cases h
        rw [hl.1] at hk
        exact lv_lstore hx hb hd (xpr_has hl) hk rfl (fun ls' h' => kk ls' (xL_st2 hl hk h'))
      · cases h
    · cases h
  | iinc k n => 
    simp only [xpure] at h
    split at h
    · rename_i x hq
      cases h
      have hm := xpr_mem G hq rfl
      obtain ⟨j, hj⟩ := List.mem_iff_getElem?.mp hm
      have hk : k < nL := by rw [← hl.1]; exact (List.getElem?_eq_some_iff.mp hq).1
      exact lv_iinc hx hb hd (xpr_has hl) hj rfl hk rfl (fun ls' h' => kk ls' (xL_st1 hl hk (fun _ => by simp) (fun _ => by simp) h'))
    · cases h
  | iadd => 
    simp only [xpure] at h
    split at h
    · cases h
      exact lv_iadd hx hb hd (kk ls hl)
    · cases h
  | isub => 
    simp only [xpure] at h
    split at h
    · cases h
      exact lv_isub hx hb hd (kk ls hl)
    · cases h
  | imul => 
    simp only [xpure] at h
    split at h
    · cases h
      exact lv_imul hx hb hd (kk ls hl)
    · cases h
  | iand => 
    simp only [xpure] at h
    split at h
    · cases h
      exact lv_iand hx hb hd (kk ls hl)
    · cases h
  | ior => 
    simp only [xpure] at h
    split at h
    · cases h
      exact lv_ior hx hb hd (kk ls hl)
    · cases h
  | ixor => 
    simp only [xpure] at h
    split at h
    · cases h
      exact lv_ixor hx hb hd (kk ls hl)
    · cases h
  | ishl => 
    simp only [xpure] at h
    split at h
    · cases h
      exact lv_ishl hx hb hd (kk ls hl)
    · cases h
  | ishr => 
    simp only [xpure] at h
    split at h
    · cases h
      exact lv_ishr hx hb hd (kk ls hl)
    · cases h
  | ladd => 
    simp only [xpure] at h
    split at h
    · cases h
      exact lv_ladd hx hb hd (kk ls hl)
    · cases h
  | lsub => 
    simp only [xpure] at h
    split at h
    · cases h
      exact lv_lsub hx hb hd (kk ls hl)
    · cases h
  | lmul => 
    simp only [xpure] at h
    split at h
    · cases h
      exact lv_lmul hx hb hd (kk ls hl)
    · cases h
  | iushr => 
    simp only [xpure] at h
    split at h
    · cases h
      exact lv_iushr hx hb hd rfl (kk ls hl)
    · cases h
  | lcmp => 
    simp only [xpure] at h
    split at h
    · cases h
      exact W.lcmp hx hb hd (kk ls hl)
    · cases h
  | idiv => 
    simp only [xpure] at h
    split at h
    · split at h
      · cases h
      · rename_i hne
        cases h
        exact lv_idiv hx hb hd hne (kk ls hl)
    · cases h
  | irem => 
    simp only [xpure] at h
    split at h
    · split at h
      · cases h
      · rename_i hne
        cases h
        exact lv_irem hx hb hd hne (kk ls hl)
    · cases h
  | ldiv => 
    simp only [xpure] at h
    split at h
    · split at h
      · cases h
      · rename_i hne
        cases h
        exact lv_ldiv hx hb hd hne (kk ls hl)
    · cases h
  | lrem => 
    simp only [xpure] at h
    split at h
    · split at h
      · cases h
      · rename_i hne
        cases h
        exact lv_lrem hx hb hd hne (kk ls hl)
    · cases h
  | i2l => 
    simp only [xpure] at h
    split at h
    · cases h
      exact lv_i2l hx hb hd rfl (kk ls hl)
    · cases h
  | l2i => 
    simp only [xpure] at h
    split at h
    · cases h
      exact lv_l2i hx hb hd rfl (kk ls hl)
    · cases h
  | i2b => 
    simp only [xpure] at h
    split at h
    · cases h
      exact lv_i2b hx hb hd rfl (kk ls hl)
    · cases h
  | dup => 
    simp only [xpure] at h
    split at h
    · cases h
      exact lv_dup hx hb hd rfl (kk ls hl)
    · cases h
      exact lv_dup hx hb hd rfl (kk ls hl)
    · cases h
  | dup2 => 
    simp only [xpure] at h
    split at h
    · cases h
      exact lv_dup2_11 hx hb hd rfl rfl (kk ls hl)
    · cases h
      exact lv_dup2_11 hx hb hd rfl rfl (kk ls hl)
    · cases h
      exact lv_dup2_2 hx hb hd rfl (kk ls hl)
    · cases h
  | _ => simp [xpure] at h
theorem xgo_at {pc : Nat} {off : Int} {loc st : List Value} {μ : xM} {pc' : Nat} {loc' st' : List Value} {μ' : xM} (h : xgo pc off loc st μ = some (.inl (pc', loc', st', μ'))) : (pc : Int) + off = (pc' : Int) ∧ loc = loc' ∧ st = st' ∧ μ = μ' := by
  unfold xgo at h
  split at h
  · rename_i t ht
    simp only [xnx, Option.some.injEq, Sum.inl.injEq, Prod.mk.injEq] at h
    obtain ⟨rfl, rfl, rfl, rfl⟩ := h
    exact ⟨ht, rfl, rfl, rfl⟩
  · cases h
theorem xnx_at {pc : Nat} {loc st : List Value} {μ : xM} {pc' : Nat} {loc' st' : List Value} {μ' : xM} (h : xnx pc loc st μ = some (.inl (pc', loc', st', μ'))) : pc = pc' ∧ loc = loc' ∧ st = st' ∧ μ = μ' := by
  simp only [xnx, Option.some.injEq, Sum.inl.injEq, Prod.mk.injEq] at h
  exact h
theorem xgo_inl {pc : Nat} {off : Int} {loc st : List Value} {μ : xM} {r : Option Value ⊕ (Nat × List Value × List Value)} : xgo pc off loc st μ ≠ some (.inr r) := by
  unfold xgo
  split <;> simp [xnx]
theorem xbr_inl {b : Prop} {inst : Decidable b} {pc : Nat} {off : Int} {loc st : List Value} {μ : xM} {r : Option Value ⊕ (Nat × List Value × List Value)} : xbr b pc off loc st μ ≠ some (.inr r) := by
  unfold xbr
  split
  · split <;> simp [xnx]
  · simp
theorem xjump_inl {ins : Instr} {pc : Nat} {loc st : List Value} {μ : xM} {r : Option Value ⊕ (Nat × List Value × List Value)} : xjump ins pc loc st μ ≠ some (.inr r) := by
  intro h
  unfold xjump at h
  split at h
  · exact xgo_inl h
  · split at h
    · exact xbr_inl h
    · cases h
  · split at h
    · exact xbr_inl h
    · cases h
  · split at h
    · exact xgo_inl h
    · cases h
    · cases h
  · split at h
    · cases h
    · exact xgo_inl h
    · cases h
  · split at h
    · split at h
      · exact xgo_inl h
      · split at h
        · exact xgo_inl h
        · cases h
    · cases h
  · cases h
theorem xbr_at {b : Prop} {inst : Decidable b} {pc : Nat} {off : Int} {loc st : List Value} {μ : xM} {pc' : Nat} {loc' st' : List Value} {μ' : xM} (h : xbr b pc off loc st μ = some (.inl (pc', loc', st', μ'))) :
    loc = loc' ∧ st = st' ∧ μ = μ' ∧ ∃ t : Nat, (pc : Int) + off = (t : Int) ∧ ((b ∧ pc' = t) ∨ (¬ b ∧ pc' = pc + 3)) := by
  unfold xbr at h
  split at h
  · rename_i t ht
    split at h
    · rename_i hb
      obtain ⟨h1, h2, h3, h4⟩ := xnx_at h
      exact ⟨h2, h3, h4, t, ht, Or.inl ⟨hb, h1.symm⟩⟩
    · rename_i hb
      obtain ⟨h1, h2, h3, h4⟩ := xnx_at h
      exact ⟨h2, h3, h4, t, ht, Or.inr ⟨hb, h1.symm⟩⟩
  · cases h
theorem xif_sound (hx : p.tables.exec = Jvm.exec) (hb : c.code = cc) {x : Int32} {cd : ClassFile.Cond} {off : Int} {pc' : Nat} {rest : List Value} (hd : decode cc pc = .ok (.ifCond cd off, 3))
    {tgt : Nat} (ht : (pc : Int) + off = (tgt : Int)) (hc : ((xcond cd x 0 = true) ∧ pc' = tgt) ∨ (¬ (xcond cd x 0 = true) ∧ pc' = pc + 3))
    (kk : W p l e R s m args below meth c H locs cells slots Q (F0 m pc' ls rest)) : W p l e R s m args below meth c H locs cells slots Q (F0 m pc ls (.int x :: rest)) := by
  cases cd with
  | eq =>
    simp only [xcond, decide_eq_true_eq] at hc
    rcases hc with ⟨h1, h2⟩ | ⟨h1, h2⟩
    · subst h2
      exact lv_if_eq hx hb hd ht (fun _ => kk) (fun h => absurd h1 h)
    · subst h2
      exact lv_if_eq hx hb hd ht (fun h => absurd h h1) (fun _ => kk)
  | ne =>
    simp only [xcond, decide_eq_true_eq] at hc
    rcases hc with ⟨h1, h2⟩ | ⟨h1, h2⟩
    · subst h2
      exact lv_if_ne hx hb hd ht (fun _ => kk) (fun h => absurd h h1)
    · subst h2
      exact lv_if_ne hx hb hd ht (fun h => absurd h h1) (fun _ => kk)
  | lt =>
    simp only [xcond, decide_eq_true_eq] at hc
    rcases hc with ⟨h1, h2⟩ | ⟨h1, h2⟩
    · subst h2
      exact lv_if_lt hx hb hd ht (fun _ => kk) (fun h => absurd h1 h)
    · subst h2
      exact lv_if_lt hx hb hd ht (fun h => absurd h h1) (fun _ => kk)
  | ge =>
    simp only [xcond, decide_eq_true_eq] at hc
    rcases hc with ⟨h1, h2⟩ | ⟨h1, h2⟩
    · subst h2
      exact lv_if_ge hx hb hd ht (fun _ => kk) (fun h => absurd h1 h)
    · subst h2
      exact lv_if_ge hx hb hd ht (fun h => absurd h h1) (fun _ => kk)
  | gt =>
    simp only [xcond, decide_eq_true_eq] at hc
    rcases hc with ⟨h1, h2⟩ | ⟨h1, h2⟩
    · subst h2
      exact lv_if_gt hx hb hd ht (fun _ => kk) (fun h => absurd h1 h)
    · subst h2
      exact lv_if_gt hx hb hd ht (fun h => absurd h h1) (fun _ => kk)
  | le =>
    simp only [xcond, decide_eq_true_eq] at hc
    rcases hc with ⟨h1, h2⟩ | ⟨h1, h2⟩
    · subst h2
      exact lv_if_le hx hb hd ht (fun _ => kk) (fun h => absurd h1 h)
    · subst h2
      exact lv_if_le hx hb hd ht (fun h => absurd h h1) (fun _ => kk)
theorem xicmp_sound (hx : p.tables.exec = Jvm.exec) (hb : c.code = cc) {x y : Int32} {cd : ClassFile.Cond} {off : Int} {pc' : Nat} {rest : List Value} (hd : decode cc pc = .ok (.if_icmp cd off, 3))
    {tgt : Nat} (ht : (pc : Int) + off = (tgt : Int)) (hc : ((xcond cd x y = true) ∧ pc' = tgt) ∨ (¬ (xcond cd x y = true) ∧ pc' = pc + 3))
    (kk : W p l e R s m args below meth c H locs cells slots Q (F0 m pc' ls rest)) : W p l e R s m args below meth c H locs cells slots Q (F0 m pc ls (.int y :: .int x :: rest)) := by
  cases cd with
  | eq =>
    simp only [xcond, decide_eq_true_eq] at hc
    rcases hc with ⟨h1, h2⟩ | ⟨h1, h2⟩
    · subst h2
      exact lv_icmp_eq hx hb hd ht (fun _ => kk) (fun h => absurd h1 h)
    · subst h2
      exact lv_icmp_eq hx hb hd ht (fun h => absurd h h1) (fun _ => kk)
  | ne =>
    simp only [xcond, decide_eq_true_eq] at hc
    rcases hc with ⟨h1, h2⟩ | ⟨h1, h2⟩
    · subst h2
      exact lv_icmp_ne hx hb hd ht (fun _ => kk) (fun h => absurd h h1)
    · subst h2
      exact lv_icmp_ne hx hb hd ht (fun h => absurd h h1) (fun _ => kk)
  | lt =>
    simp only [xcond, decide_eq_true_eq] at hc
    rcases hc with ⟨h1, h2⟩ | ⟨h1, h2⟩
    · subst h2
      exact lv_icmp_lt hx hb hd ht (fun _ => kk) (fun h => absurd h1 h)
    · subst h2
      exact lv_icmp_lt hx hb hd ht (fun h => absurd h h1) (fun _ => kk)
  | ge =>
    simp only [xcond, decide_eq_true_eq] at hc
    rcases hc with ⟨h1, h2⟩ | ⟨h1, h2⟩
    · subst h2
      exact lv_icmp_ge hx hb hd ht (fun _ => kk) (fun h => absurd h1 h)
    · subst h2
      exact lv_icmp_ge hx hb hd ht (fun h => absurd h h1) (fun _ => kk)
  | gt =>
    simp only [xcond, decide_eq_true_eq] at hc
    rcases hc with ⟨h1, h2⟩ | ⟨h1, h2⟩
    · subst h2
      exact lv_icmp_gt hx hb hd ht (fun _ => kk) (fun h => absurd h1 h)
    · subst h2
      exact lv_icmp_gt hx hb hd ht (fun h => absurd h h1) (fun _ => kk)
  | le =>
    simp only [xcond, decide_eq_true_eq] at hc
    rcases hc with ⟨h1, h2⟩ | ⟨h1, h2⟩
    · subst h2
      exact lv_icmp_le hx hb hd ht (fun _ => kk) (fun h => absurd h1 h)
    · subst h2
      exact lv_icmp_le hx hb hd ht (fun h => absurd h h1) (fun _ => kk)
set_option maxHeartbeats 4000000 in
theorem xjump_sound (hx : p.tables.exec = Jvm.exec) (hb : c.code = cc) {ins : Instr} {len : Nat} {loc st loc' st' : List Value} {pc' : Nat} {μ μ' : xM}
    (h : xjump ins pc loc st μ = some (.inl (pc', loc', st', μ'))) (hd : decode cc pc = .ok (ins, len)) (hlen : len = xlen ins ∨ xswitch ins = true)
    (kk : loc = loc' → μ = μ' → W p l e R s m args below meth c H locs cells slots Q (F0 m pc' ls (st'.map (xv G)))) : W p l e R s m args below meth c H locs cells slots Q (F0 m pc ls (st.map (xv G))) := by
  unfold xjump at h
  split at h
  · obtain ⟨h1, rfl, rfl, rfl⟩ := xgo_at h
    rcases hlen with rfl | hs
    · exact lv_goto hx hb hd h1 (kk rfl rfl)
    · cases hs
  · split at h
    · obtain ⟨rfl, rfl, rfl, t, ht, hc⟩ := xbr_at h
      rcases hlen with rfl | hs
      · exact xif_sound hx hb hd ht hc (kk rfl rfl)
      · cases hs
    · cases h
  · split at h
    · obtain ⟨rfl, rfl, rfl, t, ht, hc⟩ := xbr_at h
      rcases hlen with rfl | hs
      · exact xicmp_sound hx hb hd ht hc (kk rfl rfl)
      · cases hs
    · cases h
  · rcases hlen with rfl | hs
    · split at h
      · obtain ⟨h1, rfl, rfl, rfl⟩ := xgo_at h
        exact lv_ifnullN hx hb hd h1 (kk rfl rfl)
      · obtain ⟨rfl, rfl, rfl, rfl⟩ := xnx_at h
        exact lv_ifnull hx hb hd (kk rfl rfl)
      · cases h
    · cases hs
  · rcases hlen with rfl | hs
    · split at h
      · obtain ⟨rfl, rfl, rfl, rfl⟩ := xnx_at h
        exact lv_ifnonnullN hx hb hd (kk rfl rfl)
      · obtain ⟨h1, rfl, rfl, rfl⟩ := xgo_at h
        exact lv_ifnonnull hx hb hd h1 (kk rfl rfl)
      · cases h
    · cases hs
  · split at h
    · split at h
      · rename_i hr
        obtain ⟨h1, rfl, rfl, rfl⟩ := xgo_at h
        exact lv_tableOut hx hb hd hr h1 (kk rfl rfl)
      · rename_i hr
        split at h
        · rename_i off ho
          obtain ⟨h1, rfl, rfl, rfl⟩ := xgo_at h
          exact lv_tableIn hx hb hd (fun z => hr (Or.inl z)) (fun z => hr (Or.inr z)) ho h1 (kk rfl rfl)
        · cases h
    · cases h
  · cases h
end XPURE
