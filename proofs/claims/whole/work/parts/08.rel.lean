/-! the small machine's memory against the heap -/
/-- base, script, letters, script's length; the script; array classes; classes; places of fields -/
abbrev xP : Type := (Nat → Nat) × (Nat → Int32) × (Nat → ClassId) × (Nat → ClassId) × (Nat → Nat → Nat)
def xad (G : xP) (a : Nat) : Nat := if a = 0 then G.1 1 else if a = 1 then G.1 2 else G.1 0 + (a - 2)
def xv (G : xP) (v : Value) : Value := match v with
  | .ref a => .ref (xad G a)
  | w => w
def xA (G : xP) : Nat → Prop := fun q => G.1 0 ≤ q
def xE (G : xP) (μ : xM) (a : Nat) (s : Nat × Nat) : va_E :=
  if s.1 = 100 then .inl (G.2.2.1 100, s.2, .inl (μ.2.1 a))
  else if s.1 = 101 then .inl (G.2.2.1 101, s.2, .inr (.inl (μ.2.2.1 a)))
  else if s.1 = 102 then .inl (G.2.2.1 102, s.2, .inl (μ.2.1 a))
  else if s.1 = 103 then .inl (G.2.2.1 103, s.2, .inr (.inr (.inr (.inr (fun j => (μ.2.2.2 a j).map (xad G))))))
  else if s.1 = 104 then .inl (G.2.2.1 104, s.2, .inr (.inr (.inr (.inr (fun j => (μ.2.2.2 a j).map (xad G))))))
  else .inr (s.1, (List.range s.2).map fun k => xv G (xget s.1 k a μ))
def xW (G : xP) (μ : xM) : va_W := (List.range (μ.1.length - 2)).map fun i => (G.1 0 + i, xE G μ (i + 2) (μ.1.getD (i + 2) (0, 0)))
def xok (s : Nat × Nat) : Bool := decide (100 ≤ s.1 ∧ s.1 ≤ 104) || decide (s.1 < 11 ∧ s.2 = (xFy.getD s.1 []).length)
def xlet : List Int32 := [98, 114, 100, 111, 99, 115]
abbrev xD (G : xP) : va_G := (G.2.2.2.1, G.2.2.2.2)
abbrev xtys (G : xP) : List (ClassId × FieldType) := [(G.2.2.1 100, .int), (G.2.2.1 101, .long), (G.2.2.1 102, .boolean), (G.2.2.1 103, .object RX9), (G.2.2.1 104, .object RX5)]
def xRel (G : xP) (μ : xM) (H : Heap) : Prop :=
  μ.1[0]? = some (105, G.1 3) ∧ μ.1[1]? = some (105, 6) ∧ (∀ a s, 2 ≤ a → μ.1[a]? = some s → xok s = true) ∧ (∀ j, μ.2.1 0 j = G.2.1 j) ∧ (∀ j, j < 6 → μ.2.1 1 j = xlet.getD j 0) ∧
  va_P (xD G) vwCl (xW G μ) H
theorem xv_rf (G : xP) (r : Option Nat) : xv G (va_rf r) = va_rf (r.map (xad G)) := by cases r <;> rfl
theorem xv_cat (G : xP) (v : Value) : (xv G v).category = v.category := by cases v <;> rfl
theorem xad_ge (G : xP) {a : Nat} (h : 2 ≤ a) : xad G a = G.1 0 + (a - 2) := by
  unfold xad
  rw [if_neg (by omega), if_neg (by omega)]
theorem xW_len (G : xP) (μ : xM) : (xW G μ).length = μ.1.length - 2 := by simp [xW]
theorem xW_get (G : xP) (μ : xM) {a : Nat} {s : Nat × Nat} (h : μ.1[a]? = some s) (h2 : 2 ≤ a) : (xW G μ)[a - 2]? = some (xad G a, xE G μ a s) := by
  have hl : a < μ.1.length := (List.getElem?_eq_some_iff.mp h).1
  rw [xad_ge G h2]
  simp only [xW, List.getElem?_map, List.getElem?_range (show a - 2 < μ.1.length - 2 by omega), Option.map_some]
  rw [show a - 2 + 2 = a by omega]
  simp [List.getD, h]
theorem xW_at (G : xP) (μ : xM) {i : Nat} {q : Nat × va_E} (h : (xW G μ)[i]? = some q) : i + 2 < μ.1.length ∧ q = (G.1 0 + i, xE G μ (i + 2) (μ.1.getD (i + 2) (0, 0))) := by
  have hl : i < μ.1.length - 2 := by
    have := (List.getElem?_eq_some_iff.mp h).1
    rw [xW_len] at this
    exact this
  simp only [xW, List.getElem?_map, List.getElem?_range hl, Option.map_some] at h
  exact ⟨by omega, (Option.some.inj h).symm⟩
theorem xW_D (G : xP) (μ : xM) : va_D (xA G) (xW G μ) := by
  refine ⟨fun i j p q h1 h2 h3 => ?_, fun k q h => ?_⟩
  · rw [(xW_at G μ h1).2, (xW_at G μ h2).2] at h3
    simp at h3
    exact h3
  · rw [(xW_at G μ h).2]
    simp [xA]
theorem xW_set (G : xP) {μ μ' : xM} {a : Nat} {s : Nat × Nat} (h : μ.1[a]? = some s) (h2 : 2 ≤ a) (hs : μ'.1 = μ.1) (ho : ∀ b s, b ≠ a → xE G μ' b s = xE G μ b s) : xW G μ' = (xW G μ).set (a - 2) (xad G a, xE G μ' a s) := by
  have hl : a < μ.1.length := (List.getElem?_eq_some_iff.mp h).1
  apply List.ext_getElem?
  intro i
  rw [List.getElem?_set]
  by_cases hi : a - 2 = i
  · subst hi
    rw [if_pos rfl, if_pos (by rw [xW_len]; omega)]
    exact xW_get G μ' (by rw [hs]; exact h) h2
  · rw [if_neg hi]
    by_cases hb : i < μ.1.length - 2
    · simp only [xW, List.getElem?_map, List.getElem?_range hb, hs, Option.map_some]
      rw [ho _ _ (by omega)]
    · simp only [xW, List.getElem?_map, hs]
      rw [List.getElem?_eq_none (by simp; omega)]
      rfl
theorem xE_o (G : xP) {μ μ' : xM} {b : Nat} (h1 : ∀ j, μ'.2.1 b j = μ.2.1 b j) (h2 : ∀ j, μ'.2.2.1 b j = μ.2.2.1 b j) (h3 : ∀ j, μ'.2.2.2 b j = μ.2.2.2 b j) (s : Nat × Nat) : xE G μ' b s = xE G μ b s := by
  have e1 : μ'.2.1 b = μ.2.1 b := funext h1
  have e2 : μ'.2.2.1 b = μ.2.2.1 b := funext h2
  have e3 : μ'.2.2.2 b = μ.2.2.2 b := funext h3
  unfold xE xget
  rw [e1, e2, e3]
theorem xw_ne {α : Type} {m : Nat → Nat → α} {a k b : Nat} {v : α} (h : b ≠ a) (j : Nat) : xw m a k v b j = m b j := by simp [xw, h]
theorem xw_eq {α : Type} {m : Nat → Nat → α} {a k : Nat} {v : α} (j : Nat) : xw m a k v a j = if j = k then v else m a j := by simp [xw]
theorem xz_ne {α : Type} {m : Nat → Nat → α} {a b : Nat} {v : α} (h : b ≠ a) (j : Nat) : xz m a v b j = m b j := by simp [xz, h]
theorem xz_eq {α : Type} {m : Nat → Nat → α} {a : Nat} {v : α} (j : Nat) : xz m a v a j = v := by simp [xz]
theorem xW_make (G : xP) (μ : xM) (s : Nat × Nat) (h2 : 2 ≤ μ.1.length) : xW G (xmake s μ) = xW G μ ++ [(G.1 0 + (μ.1.length - 2), xE G (xmake s μ) μ.1.length s)] := by
  apply List.ext_getElem?
  intro i
  have hlen : (xmake s μ).1.length = μ.1.length + 1 := by simp [xmake]
  by_cases hb : i < μ.1.length - 2
  · rw [List.getElem?_append_left (by rw [xW_len]; exact hb)]
    simp only [xW, List.getElem?_map, List.getElem?_range hb, List.getElem?_range (show i < (xmake s μ).1.length - 2 by omega), Option.map_some]
    have e : (xmake s μ).1.getD (i + 2) (0, 0) = μ.1.getD (i + 2) (0, 0) := by
      simp only [xmake, List.getD]
      rw [List.getElem?_append_left (by omega)]
    rw [e, xE_o G (μ := μ) (fun j => xz_ne (by omega) j) (fun j => xz_ne (by omega) j) (fun j => xz_ne (by omega) j)]
  · rw [List.getElem?_append_right (by rw [xW_len]; omega), xW_len]
    by_cases he : i = μ.1.length - 2
    · subst he
      simp only [xW, List.getElem?_map, List.getElem?_range (show μ.1.length - 2 < (xmake s μ).1.length - 2 by omega), Option.map_some, Nat.sub_self, List.getElem?_cons_zero]
      rw [show μ.1.length - 2 + 2 = μ.1.length by omega]
      simp [xmake, List.getD]
    · rw [List.getElem?_eq_none (by simp [xW, hlen]; omega), List.getElem?_eq_none (by simp; omega)]
/-! locals -/
def xlv (loc : List Value) (k : Nat) (v : Value) : Bool := match v with
  | .retAddr _ => false
  | .long _ => (match loc[k + 1]? with
    | some (.retAddr _) => true
    | _ => false)
  | .double _ => false
  | _ => true
def xpr (G : xP) (loc : List Value) : List (Nat × Value) := (List.range loc.length).filterMap fun k => match loc[k]? with
  | some v => if xlv loc k v then some (k, xv G v) else none
  | none => none
theorem xpr_mem (G : xP) {loc : List Value} {k : Nat} {v : Value} (h : loc[k]? = some v) (hv : xlv loc k v = true) : (k, xv G v) ∈ xpr G loc := by
  refine List.mem_filterMap.mpr ⟨k, List.mem_range.mpr (List.getElem?_eq_some_iff.mp h).1, ?_⟩
  simp [h, hv]
def xL (G : xP) (loc : List Value) (ls : Array Slot) (nL : Nat) : Prop := loc.length = nL ∧ ls.size = nL ∧ lv_wf ls ∧ ∀ k v, loc[k]? = some v → xlv loc k v = true → ls[k]? = some (.val (xv G v))
theorem xpr_has {G : xP} {loc : List Value} {ls : Array Slot} {nL : Nat} (h : xL G loc ls nL) : lv_has ls nL (xpr G loc) := by
  refine ⟨h.2.1, h.2.2.1, fun q hq => ?_⟩
  obtain ⟨k, hk, he⟩ := List.mem_filterMap.mp hq
  cases hl : loc[k]? with
  | none => rw [hl] at he; cases he
  | some v =>
    rw [hl] at he
    simp only at he
    split at he
    · rename_i hv
      cases he
      exact h.2.2.2 k v hl hv
    · cases he
theorem xL_st1 {G : xP} {loc : List Value} {ls ls' : Array Slot} {nL i : Nat} {v : Value} (h : xL G loc ls nL) (hi : i < nL) (hc : ∀ x, v ≠ .long x) (hr : ∀ x, v ≠ .retAddr x)
    (h' : lv_has ls' nL ((i, xv G v) :: (xpr G loc).filter (fun q => !(q.1 == i) && !(q.1 + 1 == i && q.2.category == 2)))) : xL G (xst1 i v loc) ls' nL := by
  refine ⟨by simp [xst1, h.1], h'.1, h'.2.1, fun k w hk hw => ?_⟩
  by_cases hki : k = i
  · subst hki
    have e : w = v := by
      have h1 : (loc.set k v)[k]? = some v := by rw [List.getElem?_set, if_pos rfl, if_pos (by rw [h.1]; exact hi)]
      exact Option.some.inj (hk.symm.trans h1)
    subst e
    exact h'.2.2 (k, xv G w) List.mem_cons_self
  · have hk0 : loc[k]? = some w := by
      have h1 : (loc.set i v)[k]? = loc[k]? := by rw [List.getElem?_set, if_neg (fun e => hki e.symm)]
      rw [← h1]; exact hk
    have hlong : ∀ x, w = .long x → k + 1 ≠ i ∧ xlv loc k w = true := by
      intro x hx
      subst hx
      simp only [xlv] at hw ⊢
      by_cases hki2 : k + 1 = i
      · have h1 : (xst1 i v loc)[k + 1]? = some v := by rw [hki2]; simp only [xst1]; rw [List.getElem?_set, if_pos rfl, if_pos (by rw [h.1]; exact hi)]
        rw [h1] at hw
        cases v <;> simp at hw
        exact absurd rfl (hr _)
      · have h1 : (xst1 i v loc)[k + 1]? = loc[k + 1]? := by simp only [xst1]; rw [List.getElem?_set, if_neg (fun e => hki2 e.symm)]
        rw [h1] at hw
        exact ⟨hki2, hw⟩
    have hv0 : xlv loc k w = true := by
      cases w with
      | long x => exact (hlong x rfl).2
      | retAddr x => simp [xlv] at hw
      | double x => simp [xlv] at hw
      | _ => rfl
    refine h'.2.2 (k, xv G w) (List.mem_cons_of_mem _ (List.mem_filter.mpr ⟨xpr_mem G hk0 hv0, ?_⟩))
    simp only [Bool.and_eq_true, Bool.not_eq_true', beq_eq_false_iff_ne, ne_eq]
    refine ⟨hki, ?_⟩
    rw [xv_cat]
    cases w with
    | long x => simp [(hlong x rfl).1]
    | double x => simp [xlv] at hw
    | _ => simp [Value.category]
theorem xL_st2 {G : xP} {loc : List Value} {ls ls' : Array Slot} {nL i : Nat} {x : Int64} (h : xL G loc ls nL) (hi : i + 1 < nL)
    (h' : lv_has ls' nL ((i, Value.long x) :: (xpr G loc).filter (fun q => !(q.1 == i) && (!(q.1 == i + 1) && !(q.1 + 1 == i && q.2.category == 2))))) : xL G (xst2 i (.long x) loc) ls' nL := by
  have hat : ∀ k : Nat, (xst2 i (.long x) loc)[k]? = if k = i + 1 then some xmk else if k = i then some (.long x) else loc[k]? := by
    intro k
    have hl := h.1
    simp only [xst2, List.getElem?_set, List.length_set, hl]
    by_cases h1 : i + 1 = k
    · subst h1
      simp [hi]
    · by_cases h2 : i = k
      · subst h2
        simp [show i < nL by omega]
      · simp [h1, h2, show ¬ k = i + 1 from fun e => h1 e.symm, show ¬ k = i from fun e => h2 e.symm]
  refine ⟨by simp [xst2, h.1], h'.1, h'.2.1, fun k w hk hw => ?_⟩
  rw [hat] at hk
  by_cases h1 : k = i + 1
  · rw [if_pos h1] at hk
    cases hk
    simp [xlv, xmk] at hw
  · rw [if_neg h1] at hk
    by_cases h2 : k = i
    · rw [if_pos h2] at hk
      cases hk
      subst h2
      exact h'.2.2 (k, Value.long x) List.mem_cons_self
    · rw [if_neg h2] at hk
      have hlong : ∀ y, w = .long y → k + 1 ≠ i ∧ xlv loc k w = true := by
        intro y hy
        subst hy
        simp only [xlv] at hw ⊢
        rw [hat] at hw
        rw [if_neg (show ¬ k + 1 = i + 1 by omega)] at hw
        by_cases h3 : k + 1 = i
        · rw [if_pos h3] at hw
          simp at hw
        · rw [if_neg h3] at hw
          exact ⟨h3, hw⟩
      have hv0 : xlv loc k w = true := by
        cases w with
        | long x => exact (hlong x rfl).2
        | retAddr x => simp [xlv] at hw
        | double x => simp [xlv] at hw
        | _ => rfl
      refine h'.2.2 (k, xv G w) (List.mem_cons_of_mem _ (List.mem_filter.mpr ⟨xpr_mem G hk hv0, ?_⟩))
      simp only [Bool.and_eq_true, Bool.not_eq_true', beq_eq_false_iff_ne, ne_eq]
      refine ⟨h2, h1, ?_⟩
      rw [xv_cat]
      cases w with
      | long x => simp [(hlong x rfl).1]
      | double x => simp [xlv] at hw
      | _ => simp [Value.category]
