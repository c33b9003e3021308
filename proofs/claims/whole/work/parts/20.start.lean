/-! the law's start: the small machine's memory there -/
def xμ0 (L : Nat) (xs : Nat → Int32) : xM := ([(105, L), (105, 6)], (fun a j => if a = 0 then xs j else if a = 1 then xlet.getD j 0 else 0), (fun _ _ => 0), (fun _ _ => none))
theorem xeqi {args : Array Value} {s : State} {tm : Term} {k : Int32} (h : (Cond.eq tm (.int k)).before args s = true) : tm.eval args s none [] s = some (.int k) := by
  simp only [Cond.before, Cond.holds, Cond.value] at h
  cases hv : tm.eval args s none [] s with
  | none => simp [hv] at h
  | some v => simp [hv, Term.eval] at h; cases v <;> simp_all
theorem xlaw_ret {pcR : Nat} {locR stR : List Value} {μ' : xM} (h : xstep 241 pcR locR stR μ' = some (.inr (.inl (some (.int 1))))) : stR = [.int 1] ∧ decode code pcR = .ok (.ireturn, 1) := by
  unfold xstep at h
  split at h
  · rename_i ins len hc
    obtain ⟨hd, hlen, -⟩ := xcode (by omega) hc
    unfold xins at h
    split at h
    · cases h
    · split at h
      · rename_i hj
        cases h
        exact absurd hj xjump_inl
      · split at h
        · rename_i hj
          cases h
          exact absurd hj xheap_inl
        · unfold xcalls at h
          split at h
          · repeat' split at h
            all_goals first | (cases h; done) | (obtain ⟨_, _, ee⟩ := xinv_out h; cases ee)
          · repeat' split at h
            all_goals first | (cases h; done) | (obtain ⟨_, _, ee⟩ := xinv_out h; cases ee) | (obtain ⟨_, _, _, _, ee, _⟩ := xarc_ext h; cases ee)
          · repeat' split at h
            all_goals first | (cases h; done) | (obtain ⟨_, _, ee⟩ := xinv_out h; cases ee)
          · have hl1 : len = 1 := by rcases hlen with hh | hh; exact hh; cases hh
            subst hl1
            split at h
            · cases h
              exact ⟨rfl, hd⟩
            · split at h
              · cases h
                exact ⟨rfl, hd⟩
              · cases h
            · cases h
          · repeat' split at h
            all_goals (cases h; done)
          · repeat' split at h
            all_goals (cases h; done)
          · repeat' split at h
            all_goals (cases h; done)
          · cases h
  · cases h
theorem xlw_ok : (lw_tbl.contains (.laysStatic "BeanVoices" "LETTERS" "[I") && lw_tbl.contains (.initialized "BeanVoices")) = true := by decide +kernel
set_option maxHeartbeats 4000000 in
theorem xstart {p : Program} {e : Env} {s : State} {m : MethodId} {below : List Frame} {meth : Method} {c : Code} (l : Launch) {b L : Nat} {xs : Nat → Int32} (C0 : lw_At p s m meth c b L xs)
    (hX : X 241 0 (xent 241 [.ref 0]) [] (xμ0 L xs) 100 (fun v μ' => v = some (.int 1) ∧ μ'.1.length ≤ 1000 ∧ xns μ' ≤ 100000)) :
    W p l e room_1 s m #[Value.ref b] below meth c s.heap [] 0 0 (lw_Z below #[Value.ref b] s) (entryFrame m ([Value.ref b] : List Value).toArray 4) := by
  obtain ⟨hx, hb, hr, hml, hown, hts, hXs, hbl, hlocks, hgv⟩ := id C0
  obtain ⟨n, v, μ', hrun, rfl, hcl, hsl⟩ := hX
  have hg : ∀ w ∈ xGW, w.before #[Value.ref b] s = true := fun w hw => hts w (List.mem_filter.mp hw).1
  have hA0 : ∀ a : Nat, a < s.heap.size → ¬ (fun q => s.heap.size ≤ q) a := fun a h => Nat.not_le.mpr h
  have hflat := flat_of_before _ hgv
  -- the letters
  have hlet : ∃ t : Nat, (Term.static "BeanVoices" "LETTERS" "[I").eval #[Value.ref b] s none [] s = some (.ref t) ∧ va_T .int t 6 (fun j => .int (xlet.getD j 0)) (fun q => s.heap.size ≤ q) s s.heap := by
    refine va_Tof (by omega) (hflat _ (by decide +kernel)) (xeqi (hflat _ (by decide +kernel))) (fun j hj => ?_) hA0
    rcases (show j = 0 ∨ j = 1 ∨ j = 2 ∨ j = 3 ∨ j = 4 ∨ j = 5 by omega) with rfl | rfl | rfl | rfl | rfl | rfl
    · exact xeqi (hflat (Cond.eq (.elem (.static "BeanVoices" "LETTERS" "[I") (.int 0)) (.int 98)) (by decide +kernel))
    · exact xeqi (hflat (Cond.eq (.elem (.static "BeanVoices" "LETTERS" "[I") (.int 1)) (.int 114)) (by decide +kernel))
    · exact xeqi (hflat (Cond.eq (.elem (.static "BeanVoices" "LETTERS" "[I") (.int 2)) (.int 100)) (by decide +kernel))
    · exact xeqi (hflat (Cond.eq (.elem (.static "BeanVoices" "LETTERS" "[I") (.int 3)) (.int 111)) (by decide +kernel))
    · exact xeqi (hflat (Cond.eq (.elem (.static "BeanVoices" "LETTERS" "[I") (.int 4)) (.int 99)) (by decide +kernel))
    · exact xeqi (hflat (Cond.eq (.elem (.static "BeanVoices" "LETTERS" "[I") (.int 5)) (.int 115)) (by decide +kernel))
  obtain ⟨t, ht, hT⟩ := hlet
  have hok := xlw_ok
  simp only [Bool.and_eq_true, List.contains_iff_mem] at hok
  have hZ := va_Zref (A := fun q => s.heap.size ≤ q) (hts _ hok.1) (hts _ hok.2) ht hA0
  -- the classes
  have hcls : ∀ k, ∃ (cC : ClassId) (iS : Nat → Nat), k < 11 → u_Kn s (xCi k).1 (xCi k).2.1 (xCi k).2.2 cC iS := by
    intro k
    by_cases hk : k < 11
    · obtain ⟨cC, iS, h⟩ := u_known (N := (xCi k).2.2) (n := xN k) hg (xws_in hk) (hg _ (xnew_in hk).1)
      exact ⟨cC, iS, fun _ => h⟩
    · exact ⟨0, fun _ => 0, fun h => absurd h hk⟩
  have harr : ∀ ty : FieldType, (∀ q, ty ≠ .object q) → (Cond.arrayClass ty).before #[Value.ref b] s = true → ∃ cA, ArrOfT s cA ty ∧ va_RA s cA ty := by
    intro ty hno h
    obtain ⟨cA, kA, comp, h1, h2, h3⟩ := Cond.arrayClass_spec h
    refine ⟨cA, fun n z => ⟨fun k h => (by cases h), kA, h2, comp, h3⟩, ?_⟩
    cases ty <;> first | exact h1 | exact absurd rfl (hno _)
  have harro : ∀ nm : String, va_AO nm s → ∃ cA, ArrOfT s cA (.object nm) ∧ va_RA s cA (.object nm) := by
    intro nm h
    obtain ⟨comp, cA, kA, h1, h2, h3, h4, h5⟩ := Cond.arrayOver_spec h
    exact ⟨cA, fun n z => ⟨fun k h => (by cases h), kA, h3, comp, h4⟩, kA, comp, h3, h4, h1, h5⟩
  have hao9 : va_AO RX9 s := va_AO.of (hts _ xarr_in.2.2.2.1)
  have hao5 : va_AO RX5 s := va_AO.of (hts _ xarr_in.2.2.2.2.1)
  obtain ⟨cI, hcI⟩ := harr .int (fun _ h => by cases h) (hg _ xarr_in.1)
  obtain ⟨cJ, hcJ⟩ := harr .long (fun _ h => by cases h) (hg _ xarr_in.2.1)
  obtain ⟨cZ, hcZ⟩ := harr .boolean (fun _ h => by cases h) (hg _ xarr_in.2.2.1)
  obtain ⟨cS, hcS⟩ := harro RX9 hao9
  obtain ⟨cP, hcP⟩ := harro RX5 hao5
  let G : xP := (fun k => if k = 0 then s.heap.size else if k = 1 then b else if k = 2 then t else L, xs, (fun k => if k = 100 then cI else if k = 101 then cJ else if k = 102 then cZ else if k = 103 then cS else cP), (fun k => Classical.choose (hcls k)), (fun k => Classical.choose (Classical.choose_spec (hcls k))))
  have hK : xK G s := by
    refine ⟨⟨fun k q hq => ?_, fun k q hq => ?_⟩, fun w hw hn => ?_, hao9, hao5⟩
    · have hk : k < 11 := (List.getElem?_eq_some_iff.mp hq).1
      rw [xcl_get hk] at hq
      cases hq
      exact Classical.choose_spec (Classical.choose_spec (hcls k)) hk
    · match k, hq with
      | 0, hq => cases hq; exact hcI
      | 1, hq => cases hq; exact hcJ
      | 2, hq => cases hq; exact hcZ
      | 3, hq => cases hq; exact hcS
      | 4, hq => cases hq; exact hcP
      | k + 5, hq => simp at hq
    · cases w <;> first | exact va_Nw.of rfl (hts _ hw) | cases hn
  have hO : xO G s s.heap := ⟨hXs, hZ, hT, hbl, Nat.le_refl _⟩
  have hC : xCx G p s m #[Value.ref b] meth c 241 := ⟨hx, hb, hml, hown, hg, hK, hO, fun h => absurd h (by decide +kernel), by omega⟩
  have hR : xRel G (xμ0 L xs) s.heap := by
    refine ⟨rfl, rfl, fun a q ha hq => ?_, fun j => rfl, fun j hj => rfl, fun k q hq => ?_⟩
    · simp only [xμ0] at hq
      rw [List.getElem?_eq_none (by simp; omega)] at hq
      cases hq
    · simp [xW, xμ0] at hq
  have hg2 := xgrow (xrun_ext _ _ _ _ _ _ _ _ _ hrun)
  have hL := xL_entry G (f := 241) (as := [.ref 0]) (by decide +kernel)
  rw [lg_entry_eq]
  refine xframe G n l 100 241 0 (xent 241 [.ref 0]) [] (xμ0 L xs) (some (.int 1)) μ' hrun p e room_1 s m #[Value.ref b] below meth c s.heap [] 0 0 (lw_Z below #[Value.ref b] s) _ hC hR va_S.rf hL rfl (Nat.le_refl 2) (by decide +kernel) (by decide +kernel) (by show 0 + (μ'.1.length - 2) ≤ 600000; omega) (by show 0 + (xns μ' - xns (xμ0 L xs)) ≤ 7302250; omega) (fun pcR locR stR lsR H1 locs1 hst hR1 hS1 => ?_)
  obtain ⟨rfl, hdec⟩ := xlaw_ret hst
  refine va_forget hS1.2.2 ?_
  refine W.widen (k := 600000) (n := 7302250) (by show 0 + (μ'.1.length - 2) ≤ 600000; omega) (by show 0 + (xns μ' - xns (xμ0 L xs)) ≤ 7302250; omega) ?_
  exact lw_ret hx hb hr hlocks hdec
