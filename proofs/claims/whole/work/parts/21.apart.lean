/-! a run that never looks at cell 0 is the same whatever stands there -/
def xag (μ ν : xM) : Prop := μ.1[0]? = some (200, 0) ∧ (∀ a, a ≠ 0 → ν.1[a]? = μ.1[a]?) ∧ ν.1.length = μ.1.length ∧ (∀ a j, a ≠ 0 → ν.2.1 a j = μ.2.1 a j) ∧ ν.2.2.1 = μ.2.2.1 ∧ ν.2.2.2 = μ.2.2.2
def xag0 (ν ν' : xM) : Prop := ν'.1[0]? = ν.1[0]? ∧ ∀ j, ν'.2.1 0 j = ν.2.1 0 j
theorem xag_at {μ ν : xM} (h : xag μ ν) {a k n : Nat} (hk : k ≠ 200) (hs : μ.1[a]? = some (k, n)) : a ≠ 0 ∧ ν.1[a]? = some (k, n) := by
  have ha : a ≠ 0 := by
    intro e
    subst e
    rw [h.1] at hs
    cases hs
    exact hk rfl
  exact ⟨ha, by rw [h.2.1 a ha]; exact hs⟩
theorem xag_get {μ ν : xM} (h : xag μ ν) {a ci k : Nat} (ha : a ≠ 0) : xget ci k a ν = xget ci k a μ := by
  unfold xget
  rw [h.2.2.2.1 a k ha, h.2.2.2.2.1, h.2.2.2.2.2]
theorem xag_int {μ ν : xM} (h : xag μ ν) {a k : Nat} {x : Int32} (ha : a ≠ 0) : xag (μ.1, xw μ.2.1 a k x, μ.2.2.1, μ.2.2.2) (ν.1, xw ν.2.1 a k x, ν.2.2.1, ν.2.2.2) ∧ xag0 ν (ν.1, xw ν.2.1 a k x, ν.2.2.1, ν.2.2.2) := by
  refine ⟨⟨h.1, h.2.1, h.2.2.1, fun b j hb => ?_, h.2.2.2.2.1, h.2.2.2.2.2⟩, rfl, fun j => ?_⟩
  · show xw ν.2.1 a k x b j = xw μ.2.1 a k x b j
    unfold xw
    rw [h.2.2.2.1 b j hb]
  · show xw ν.2.1 a k x 0 j = ν.2.1 0 j
    exact xw_ne (fun e => ha e.symm) j
theorem xag_long {μ ν : xM} (h : xag μ ν) {a k : Nat} {x : Int64} : xag (μ.1, μ.2.1, xw μ.2.2.1 a k x, μ.2.2.2) (ν.1, ν.2.1, xw ν.2.2.1 a k x, ν.2.2.2) ∧ xag0 ν (ν.1, ν.2.1, xw ν.2.2.1 a k x, ν.2.2.2) :=
  ⟨⟨h.1, h.2.1, h.2.2.1, h.2.2.2.1, by show xw _ _ _ _ = xw _ _ _ _; rw [h.2.2.2.2.1], h.2.2.2.2.2⟩, rfl, fun _ => rfl⟩
theorem xag_ref {μ ν : xM} (h : xag μ ν) {a k : Nat} {x : Option Nat} : xag (μ.1, μ.2.1, μ.2.2.1, xw μ.2.2.2 a k x) (ν.1, ν.2.1, ν.2.2.1, xw ν.2.2.2 a k x) ∧ xag0 ν (ν.1, ν.2.1, ν.2.2.1, xw ν.2.2.2 a k x) :=
  ⟨⟨h.1, h.2.1, h.2.2.1, h.2.2.2.1, h.2.2.2.2.1, by show xw _ _ _ _ = xw _ _ _ _; rw [h.2.2.2.2.2]⟩, rfl, fun _ => rfl⟩
theorem xag_make {μ ν : xM} (h : xag μ ν) (s : Nat × Nat) : xag (xmake s μ) (xmake s ν) ∧ xag0 ν (xmake s ν) := by
  have hl : 0 < μ.1.length := (List.getElem?_eq_some_iff.mp h.1).1
  have hl2 : 0 < ν.1.length := by rw [h.2.2.1]; exact hl
  refine ⟨⟨?_, fun a ha => ?_, ?_, fun a j ha => ?_, ?_, ?_⟩, ?_, fun j => ?_⟩
  · simp only [xmake]; rw [List.getElem?_append_left hl]; exact h.1
  · simp only [xmake]
    by_cases hb : a < μ.1.length
    · rw [List.getElem?_append_left hb, List.getElem?_append_left (by rw [h.2.2.1]; exact hb)]; exact h.2.1 a ha
    · rw [List.getElem?_append_right (show ν.1.length ≤ a by rw [h.2.2.1]; omega), List.getElem?_append_right (show μ.1.length ≤ a by omega), h.2.2.1]
  · simp only [xmake, List.length_append, h.2.2.1]
  · simp only [xmake, xz, h.2.2.1]; rw [h.2.2.2.1 a j ha]
  · simp only [xmake, h.2.2.1, h.2.2.2.2.1]
  · simp only [xmake, h.2.2.1, h.2.2.2.2.2]
  · simp only [xmake]; rw [List.getElem?_append_left hl2]
  · simp only [xmake]; rw [xz_ne (by omega)]
theorem xFT200 : (xFT.all fun e => decide (e.2.2.1 ≠ 200)) = true := by decide +kernel
theorem xci200 : ∀ f, f < 242 → xci (xm f).1 ≠ 200 := by decide +kernel
theorem xci_le (c : Nat) : xci c ≠ 200 := by
  unfold xci
  rcases Nat.lt_or_ge c 12 with h | h
  · revert c
    decide
  · rw [List.getD_eq_getElem?_getD, List.getElem?_eq_none (by simpa using h)]
    decide
theorem xag_put {μ ν : xM} (h : xag μ ν) {ini : Bool} {ci k a : Nat} {v : Value} {μ' : xM} (ha : a ≠ 0) (hp : xput ini ci k a v μ = some μ') : ∃ ν', xput ini ci k a v ν = some ν' ∧ xag μ' ν' ∧ xag0 ν ν' := by
  unfold xput at hp ⊢
  split at hp
  · cases hp
    exact ⟨_, rfl, xag_int h ha⟩
  · split at hp
    · rename_i hx
      cases hp
      exact ⟨_, if_pos hx, xag_int h ha⟩
    · cases hp
  · cases hp
    exact ⟨_, rfl, xag_long h⟩
  · split at hp
    · rename_i hx
      cases hp
      exact ⟨_, if_pos hx, xag_ref h⟩
    · cases hp
  · cases hp
theorem xag_heap {μ ν : xM} (h : xag μ ν) {mid c : Nat} {ins : Instr} {pc : Nat} {loc st : List Value} {pc' : Nat} {loc' st' : List Value} {μ' : xM} (hh : xheap mid c ins pc loc st μ = some (.inl (pc', loc', st', μ'))) : ∃ ν', xheap mid c ins pc loc st ν = some (.inl (pc', loc', st', ν')) ∧ xag μ' ν' ∧ xag0 ν ν' := by
  have same : xag0 ν ν := ⟨rfl, fun _ => rfl⟩
  unfold xheap at hh ⊢
  split at hh
  · split at hh
    · split at hh
      · split at hh
        · split at hh
          · rename_i hlk _ _ _ hsh hcj
            subst hcj
            have h2 := List.all_eq_true.mp xFT200 _ (xlk_mem hlk)
            obtain ⟨ha, hs⟩ := xag_at h (of_decide_eq_true h2) hsh
            obtain ⟨rfl, rfl, rfl, rfl⟩ := xnx_at hh
            exact ⟨ν, by simp [hlk, hs, xag_get h ha, xnx], h, same⟩
          · cases hh
        · cases hh
      · cases hh
    · cases hh
  · split at hh
    · split at hh
      · split at hh
        · split at hh
          · rename_i hlk _ _ _ hsh hcj
            subst hcj
            have h2 := List.all_eq_true.mp xFT200 _ (xlk_mem hlk)
            obtain ⟨ha, hs⟩ := xag_at h (of_decide_eq_true h2) hsh
            split at hh
            · rename_i hp
              obtain ⟨rfl, rfl, rfl, rfl⟩ := xnx_at hh
              obtain ⟨ν', hν, hag⟩ := xag_put h ha hp
              exact ⟨ν', by simp [hlk, hs, hν, xnx], hag⟩
            · cases hh
          · cases hh
        · cases hh
      · cases hh
    · cases hh
  · split at hh
    · rename_i hlk
      obtain ⟨rfl, rfl, rfl, rfl⟩ := xnx_at hh
      exact ⟨ν, by simp [hlk, xnx], h, same⟩
    · cases hh
  · split at hh
    · rename_i hlk
      obtain ⟨rfl, rfl, rfl, rfl⟩ := xnx_at hh
      exact ⟨_, by simp [hlk, xnx, h.2.2.1], xag_make h _⟩
    · cases hh
  · split at hh
    · split at hh
      · cases hh
      · rename_i hn
        split at hh
        all_goals first | (cases hh; done) | skip
        all_goals
          obtain ⟨rfl, rfl, rfl, rfl⟩ := xnx_at hh
          exact ⟨_, by rw [if_neg hn, h.2.2.1]; rfl, xag_make h _⟩
    · cases hh
  · split at hh
    · split at hh
      · cases hh
      · rename_i hn
        split at hh
        all_goals first | (cases hh; done) | skip
        all_goals
          rename_i hlk
          obtain ⟨rfl, rfl, rfl, rfl⟩ := xnx_at hh
          exact ⟨_, by simp only [if_neg hn, hlk, h.2.2.1]; rfl, xag_make h _⟩
    · cases hh
  · split at hh
    · split at hh
      · rename_i kd n hsh
        split at hh
        · rename_i hk
          obtain ⟨ha, hs⟩ := xag_at h (by omega) hsh
          obtain ⟨rfl, rfl, rfl, rfl⟩ := xnx_at hh
          exact ⟨ν, by simp [hs, hk, xnx], h, same⟩
        · cases hh
      · cases hh
    · cases hh
  all_goals first | (cases hh; done) | skip
  all_goals
    split at hh
    · split at hh
      · first
        | (rename_i kd n hsh
           split at hh
           · rename_i hk
             obtain ⟨ha, hs⟩ := xag_at h (by omega) hsh
             obtain ⟨rfl, rfl, rfl, rfl⟩ := xnx_at hh
             first
             | exact ⟨ν, by simp [hs, hk, xnx, h.2.2.2.1 _ _ ha, h.2.2.2.2.1, h.2.2.2.2.2], h, same⟩
             | exact ⟨_, by simp only [hs, if_pos hk]; rfl, xag_int h ha⟩
             | exact ⟨_, by simp only [hs, if_pos hk]; rfl, xag_long h⟩
           · cases hh)
        | (rename_i kd n ci n2 hsh hsv
           split at hh
           · rename_i hk
             obtain ⟨ha, hs⟩ := xag_at h (by omega) hsh
             obtain ⟨hav, hs2⟩ := xag_at h (by omega) hsv
             obtain ⟨rfl, rfl, rfl, rfl⟩ := xnx_at hh
             exact ⟨_, by simp only [hs, hs2, if_pos hk]; rfl, xag_ref h⟩
           · cases hh)
      · cases hh
    · cases hh
theorem xag_jump {μ ν : xM} {ins : Instr} {pc : Nat} {loc st : List Value} {pc' : Nat} {loc' st' : List Value} {μ' : xM} (hh : xjump ins pc loc st μ = some (.inl (pc', loc', st', μ'))) : μ' = μ ∧ xjump ins pc loc st ν = some (.inl (pc', loc', st', ν)) := by
  have go : ∀ {off : Int} {st1 : List Value}, xgo pc off loc st1 μ = some (.inl (pc', loc', st', μ')) → μ' = μ ∧ xgo pc off loc st1 ν = some (.inl (pc', loc', st', ν)) := by
    intro off st1 h
    unfold xgo at h ⊢
    split at h
    · obtain ⟨rfl, rfl, rfl, rfl⟩ := xnx_at h
      exact ⟨rfl, rfl⟩
    · cases h
  have br : ∀ {b : Prop} {inst : Decidable b} {off : Int} {st1 : List Value}, xbr b pc off loc st1 μ = some (.inl (pc', loc', st', μ')) → μ' = μ ∧ xbr b pc off loc st1 ν = some (.inl (pc', loc', st', ν)) := by
    intro b inst off st1 h
    unfold xbr at h ⊢
    split at h
    · split at h
      · rename_i hb
        obtain ⟨rfl, rfl, rfl, rfl⟩ := xnx_at h
        exact ⟨rfl, by simp [hb, xnx]⟩
      · rename_i hb
        obtain ⟨rfl, rfl, rfl, rfl⟩ := xnx_at h
        exact ⟨rfl, by simp [hb, xnx]⟩
    · cases h
  have nx : ∀ {pc1 : Nat} {st1 : List Value}, xnx pc1 loc st1 μ = some (.inl (pc', loc', st', μ')) → μ' = μ ∧ xnx pc1 loc st1 ν = some (.inl (pc', loc', st', ν)) := by
    intro pc1 st1 h
    obtain ⟨rfl, rfl, rfl, rfl⟩ := xnx_at h
    exact ⟨rfl, rfl⟩
  unfold xjump at hh ⊢
  split at hh
  · exact go hh
  · split at hh
    · exact br hh
    · cases hh
  · split at hh
    · exact br hh
    · cases hh
  · split at hh
    · exact go hh
    · exact nx hh
    · cases hh
  · split at hh
    · exact nx hh
    · exact go hh
    · cases hh
  · split at hh
    · split at hh
      · rename_i hr
        simp only [if_pos hr]
        exact go hh
      · rename_i hr
        simp only [if_neg hr]
        split at hh
        · exact go hh
        · cases hh
    · cases hh
  · cases hh
theorem xjump_none {μ ν : xM} {ins : Instr} {pc : Nat} {loc st : List Value} (hh : xjump ins pc loc st μ = none) : xjump ins pc loc st ν = none := by
  cases h : xjump ins pc loc st ν with
  | none => rfl
  | some r =>
    rcases r with ⟨pc', loc', st', μ'⟩ | r
    · rw [(xag_jump (ν := μ) h).2] at hh; cases hh
    · exact absurd h xjump_inl
theorem xag_inv {μ ν : xM} (h : xag μ ν) {kd f pc : Nat} {loc st : List Value} {r : xR1} (hh : xinv kd f pc loc st μ = some r) : xinv kd f pc loc st ν = some r := by
  unfold xinv at hh ⊢
  simp only at hh ⊢
  split at hh
  · rename_i hn
    rw [if_pos hn]
    split at hh
    · exact hh
    · exact hh
    · split at hh
      · split at hh
        · rename_i hsh
          split at hh
          · rename_i hci
            obtain ⟨ha, hs⟩ := xag_at h (by rw [hci]; exact xci_le _) hsh
            simp only [hs, if_pos hci]
            exact hh
          · cases hh
        · cases hh
      · cases hh
    · split at hh
      · split at hh
        · rename_i hsh
          split at hh
          · rename_i hci
            obtain ⟨ha, hs⟩ := xag_at h (by rw [hci]; exact xci_le _) hsh
            simp only [hs, if_pos hci]
            exact hh
          · cases hh
        · cases hh
      · cases hh
    · exact hh
    · exact hh
    · cases hh
  · cases hh
theorem xag_arc {μ ν : xM} (h : xag μ ν) {pc : Nat} {loc st : List Value} {pc' : Nat} {loc' st' : List Value} {μ' : xM} (hh : xarc pc loc st μ = some (.inl (pc', loc', st', μ'))) : ∃ ν', xarc pc loc st ν = some (.inl (pc', loc', st', ν')) ∧ xag μ' ν' ∧ xag0 ν ν' := by
  unfold xarc at hh ⊢
  split at hh
  · rename_i n dp a1 sp a0 rest
    split at hh
    · rename_i hs0 hs1
      obtain ⟨ha0, hs0⟩ := xag_at h (by omega) hs0
      obtain ⟨ha1, hs1⟩ := xag_at h (by omega) hs1
      split at hh
      · rename_i hc
        obtain ⟨rfl, rfl, rfl, rfl⟩ := xnx_at hh
        refine ⟨(ν.1, xcpy ν.2.1 a0 sp.toNatClampNeg a1 dp.toNatClampNeg n.toNatClampNeg, ν.2.2.1, ν.2.2.2), by simp only [hs0, hs1, if_pos hc]; rfl, ⟨h.1, h.2.1, h.2.2.1, fun b j hb => ?_, h.2.2.2.2.1, h.2.2.2.2.2⟩, rfl, fun j => ?_⟩
        · simp only [xcpy]
          rw [h.2.2.2.1 _ _ ha0, h.2.2.2.1 _ _ hb]
        · simp only [xcpy]
          rw [if_neg (fun z => ha1 z.1.symm)]
      · cases hh
    · cases hh
  · cases hh
theorem xag_calls {μ ν : xM} (h : xag μ ν) {mid c : Nat} {ins : Instr} {pc : Nat} {loc st : List Value} {r : xR1} (hh : xcalls mid c ins pc loc st μ = some r) :
    (∃ pc' loc' st' μ' ν', r = .inl (pc', loc', st', μ') ∧ xcalls mid c ins pc loc st ν = some (.inl (pc', loc', st', ν')) ∧ xag μ' ν' ∧ xag0 ν ν') ∨ (∃ r', r = .inr r' ∧ xcalls mid c ins pc loc st ν = some (.inr r')) := by
  have same : xag0 ν ν := ⟨rfl, fun _ => rfl⟩
  have inv : ∀ {kd f : Nat}, xinv kd f pc loc st μ = some r → (∃ r', r = .inr r') ∧ xinv kd f pc loc st ν = some r := by
    intro kd f h1
    obtain ⟨as, rest, e⟩ := xinv_out h1
    exact ⟨⟨_, e⟩, xag_inv h h1⟩
  unfold xcalls at hh ⊢
  split at hh
  · split at hh
    · rename_i hlk
      split at hh
      · rename_i hk
        obtain ⟨⟨r', rfl⟩, h2⟩ := inv hh
        exact Or.inr ⟨r', rfl, by simp only [hlk, if_pos hk]; exact h2⟩
      · cases hh
    · cases hh
  · split at hh
    · rename_i hlk
      split at hh
      · rename_i hk
        obtain ⟨pc', loc', st', μ', rfl, -⟩ := xarc_ext hh
        obtain ⟨ν', h1, h2⟩ := xag_arc h hh
        exact Or.inl ⟨pc', loc', st', μ', ν', rfl, by simp only [hlk, if_pos hk]; exact h1, h2⟩
      · rename_i hk
        split at hh
        · rename_i hk8
          split at hh
          · split at hh
            · rename_i hcat
              cases hh
              exact Or.inl ⟨_, _, _, μ, ν, rfl, by simp only [hlk, if_neg hk, if_pos hk8, if_pos hcat]; rfl, h, same⟩
            · cases hh
          · cases hh
        · rename_i hk8
          split at hh
          · rename_i hk9
            split at hh
            · split at hh
              · rename_i hcat
                cases hh
                exact Or.inl ⟨_, _, _, μ, ν, rfl, by simp only [hlk, if_neg hk, if_neg hk8, if_pos hk9, if_pos hcat]; rfl, h, same⟩
              · cases hh
            · cases hh
          · rename_i hk9
            split at hh
            · rename_i hk2
              obtain ⟨⟨r', rfl⟩, h2⟩ := inv hh
              exact Or.inr ⟨r', rfl, by simp only [hlk, if_neg hk, if_neg hk8, if_neg hk9, if_pos hk2]; exact h2⟩
            · cases hh
    · cases hh
  · split at hh
    · rename_i hlk
      split at hh
      · rename_i hk
        split at hh
        · split at hh
          · rename_i hcat
            cases hh
            exact Or.inl ⟨_, _, _, μ, ν, rfl, by simp only [hlk, if_pos hk, if_pos hcat]; rfl, h, same⟩
          · cases hh
        · cases hh
      · rename_i hk
        split at hh
        · rename_i hk2
          obtain ⟨⟨r', rfl⟩, h2⟩ := inv hh
          exact Or.inr ⟨r', rfl, by simp only [hlk, if_neg hk, if_pos hk2]; exact h2⟩
        · cases hh
    · cases hh
  · split at hh
    · cases hh
      exact Or.inr ⟨_, rfl, by simp [*]⟩
    · split at hh
      · cases hh
        exact Or.inr ⟨_, rfl, by simp [*]⟩
      · cases hh
    · cases hh
  · split at hh
    · cases hh
      exact Or.inr ⟨_, rfl, by simp [*]⟩
    · cases hh
  · split at hh
    · cases hh
      exact Or.inr ⟨_, rfl, by simp [*]⟩
    · cases hh
      exact Or.inr ⟨_, rfl, by simp [*]⟩
    · cases hh
  · split at hh
    · cases hh
      exact Or.inr ⟨_, rfl, by simp [*]⟩
    · cases hh
  · cases hh
theorem xheap_none {μ ν : xM} (h : xag μ ν) {mid c : Nat} {ins : Instr} {pc : Nat} {loc st : List Value} {r : xR1} (hh : xcalls mid c ins pc loc st μ = some r) : xheap mid c ins pc loc st ν = none := by
  unfold xcalls at hh
  split at hh
  all_goals first | (cases hh; done) | rfl
theorem xag_step {μ ν : xM} (h : xag μ ν) {mid pc : Nat} {loc st : List Value} {r : xR1} (hh : xstep mid pc loc st μ = some r) :
    (∃ pc' loc' st' μ' ν', r = .inl (pc', loc', st', μ') ∧ xstep mid pc loc st ν = some (.inl (pc', loc', st', ν')) ∧ xag μ' ν' ∧ xag0 ν ν') ∨ (∃ r', r = .inr r' ∧ xstep mid pc loc st ν = some (.inr r')) := by
  have same : xag0 ν ν := ⟨rfl, fun _ => rfl⟩
  cases hc : (xC mid).lookup pc with
  | none => simp only [xstep, hc] at hh; cases hh
  | some q =>
    obtain ⟨ins, len⟩ := q
    simp only [xstep, hc, xins] at hh ⊢
    cases hp : xpure (xm mid).1 ins loc st with
    | some q =>
      simp only [hp] at hh ⊢
      cases hh
      exact Or.inl ⟨_, _, _, μ, ν, rfl, rfl, h, same⟩
    | none =>
      simp only [hp] at hh ⊢
      cases hj : xjump ins pc loc st μ with
      | some q =>
        simp only [hj] at hh
        have ee := Option.some.inj hh
        subst ee
        rcases q with ⟨pc', loc', st', μ'⟩ | r
        · obtain ⟨rfl, h2⟩ := xag_jump (ν := ν) hj
          exact Or.inl ⟨_, _, _, _, ν, rfl, by simp only [h2], h, same⟩
        · exact absurd hj xjump_inl
      | none =>
        simp only [hj, xjump_none (ν := ν) hj] at hh ⊢
        cases hj2 : xheap mid (xm mid).1 ins pc loc st μ with
        | some q =>
          simp only [hj2] at hh
          have ee := Option.some.inj hh
          subst ee
          rcases q with ⟨pc', loc', st', μ'⟩ | r
          · obtain ⟨ν', h1, h2⟩ := xag_heap h hj2
            exact Or.inl ⟨_, _, _, _, ν', rfl, by simp only [h1], h2⟩
          · exact absurd hj2 xheap_inl
        | none =>
          simp only [hj2] at hh
          simp only [xheap_none h hh]
          exact xag_calls h hh
theorem xag0_trans {ν ν1 ν2 : xM} (h1 : xag0 ν ν1) (h2 : xag0 ν1 ν2) : xag0 ν ν2 := ⟨h2.1.trans h1.1, fun j => (h2.2 j).trans (h1.2 j)⟩
theorem xag_run : ∀ (n d mid pc : Nat) (loc st : List Value) (μ ν : xM) (v : Option Value) (μ' : xM), xag μ ν → xrun n d mid pc loc st μ = some (v, μ') → ∃ ν', xrun n d mid pc loc st ν = some (v, ν') ∧ xag μ' ν' ∧ xag0 ν ν' := by
  intro n
  induction n with
  | zero => intro d mid pc loc st μ ν v μ' _ h; simp [xrun] at h
  | succ n ih =>
    intro d mid pc loc st μ ν v μ' hag h
    simp only [xrun] at h ⊢
    cases e : xstep mid pc loc st μ with
    | none => rw [e] at h; cases h
    | some q =>
      rw [e] at h
      rcases xag_step hag e with ⟨pc', loc', st', μ1, ν1, rfl, h1, h2, h3⟩ | ⟨r', rfl, h1⟩
      · rw [h1]
        obtain ⟨ν', a1, a2, a3⟩ := ih _ _ _ _ _ _ ν1 _ _ h2 h
        exact ⟨ν', a1, a2, xag0_trans h3 a3⟩
      · rw [h1]
        rcases r' with v1 | ⟨f, as, rest⟩
        · cases h
          exact ⟨ν, rfl, hag, rfl, fun _ => rfl⟩
        · cases d with
          | zero => cases h
          | succ d' =>
            simp only at h ⊢
            cases h2 : xrun n d' f 0 (xent f as) [] μ with
            | none => rw [h2] at h; cases h
            | some q =>
              rw [h2] at h
              obtain ⟨ν1, a1, a2, a3⟩ := ih _ _ _ _ _ _ ν _ _ hag h2
              rw [a1]
              obtain ⟨ν2, b1, b2, b3⟩ := ih _ _ _ _ _ _ ν1 _ _ a2 h
              exact ⟨ν2, b1, b2, xag0_trans a3 b3⟩
