/-! soundness: all that touches cells, in one -/
theorem xput_sh {ini : Bool} {ci k a : Nat} {v : Value} {μ μ' : xM} (h : xput ini ci k a v μ = some μ') : μ'.1 = μ.1 := by
  unfold xput at h
  split at h
  · cases h; rfl
  · split at h
    · cases h; rfl
    · cases h
  · cases h; rfl
  · split at h
    · cases h; rfl
    · cases h
  · cases h
section XALL
variable {p : Program} {l : Launch} {e : Env} {R : Room} {s : State} {m : MethodId} {args : Array Value} {below : List Frame} {meth : Method} {c : Code} {H : Heap} {locs : List Loc} {cells slots : Nat} {Q : State → Prop} {G : xP} {pc mid : Nat} {ls : Array Slot} {μ : xM}
theorem xkeep {μ' : xM} {g : JFrame} (hs : μ'.1 = μ.1) (h : W p l e R s m args below meth c H locs (cells + (μ'.1.length - μ.1.length)) (slots + (xns μ' - xns μ)) Q g) : W p l e R s m args below meth c H locs cells slots Q g := by
  have e1 : cells + (μ'.1.length - μ.1.length) = cells := by rw [hs]; omega
  have e2 : slots + (xns μ' - xns μ) = slots := by unfold xns; rw [hs]; omega
  rw [e1, e2] at h
  exact h
theorem xc16 : ∀ f, f < 242 → (xm f).1 < 16 := by decide +kernel
set_option maxHeartbeats 4000000 in
theorem xheap_sound (C : xCx G p s m args meth c mid) (hR : xRel G μ H) (hS : va_S (xA G) s.heap H locs) (hN : s.heap.size + cells = G.1 0 + (μ.1.length - 2)) (h2 : 2 ≤ μ.1.length) {ins : Instr} {loc st loc' st' : List Value} {pc' : Nat} {μ' : xM}
    (h : xheap mid (xm mid).1 ins pc loc st μ = some (.inl (pc', loc', st', μ'))) (hd : decode (xm mid).2.2.1 pc = .ok (ins, xlen ins)) (hi : xidx ins = true) (hrc : cells + (μ'.1.length - μ.1.length) ≤ R.cells) (hrs : slots + (xns μ' - xns μ) ≤ R.slots)
    (kk : ∀ (H1 : Heap) (locs1 : List Loc), loc = loc' → xRel G μ' H1 → va_S (xA G) s.heap H1 locs1 → W p l e R s m args below meth c H1 locs1 (cells + (μ'.1.length - μ.1.length)) (slots + (xns μ' - xns μ)) Q (F0 m pc' ls (st'.map (xv G)))) : W p l e R s m args below meth c H locs cells slots Q (F0 m pc ls (st.map (xv G))) := by
  unfold xheap at h
  split at h
  · -- getfield
    split at h
    · split at h
      · split at h
        · split at h
          · rename_i hlk _ _ _ hsh hcj
            subst hcj
            obtain ⟨rfl, rfl, rfl, rfl⟩ := xnx_at h
            exact xget_sound C hR (of_decide_eq_true hi) hlk hsh hd (xkeep (μ := μ) rfl (kk H locs rfl hR hS))
          · cases h
        · cases h
      · cases h
    · cases h
  · -- putfield
    split at h
    · split at h
      · split at h
        · split at h
          · rename_i hlk _ _ _ hsh hcj
            subst hcj
            split at h
            · rename_i hp
              obtain ⟨rfl, rfl, rfl, rfl⟩ := xnx_at h
              exact xput_sound C hR hS (of_decide_eq_true hi) hlk hsh hd hp (xc16 mid C.2.2.2.2.2.2.2.2) (fun H1 locs1 hR1 hS1 hs => xkeep (μ := μ) hs (kk H1 locs1 rfl hR1 hS1))
            · cases h
          · cases h
        · cases h
      · cases h
    · cases h
  · -- getstatic
    split at h
    · rename_i i _ q hlk
      obtain ⟨rfl, rfl, rfl, rfl⟩ := xnx_at h
      have hi' : i < 1000 := of_decide_eq_true hi
      have h1 := List.all_eq_true.mp xST_ok _ (xlk_mem hlk)
      simp only [xkey1 _ hi', xkey2 _ hi', Bool.and_eq_true, xthere, decide_eq_true_eq] at h1
      have hC := C
      obtain ⟨hx, hb, -, hown, hts, hK, hO, -⟩ := C
      exact va_getsN hx hb hO.2.1 hS hown (va_Nw.use rfl (hK.2.1 _ (List.mem_of_getElem? h1.2) rfl)) (fun _ h => h) hd (xkeep (μ := μ) rfl (kk H locs rfl hR hS))
    · cases h
  · -- new
    split at h
    · rename_i hlk
      obtain ⟨rfl, rfl, rfl, rfl⟩ := xnx_at h
      simp only [xlen_make, xns_make, Nat.add_sub_cancel_left] at hrc hrs kk
      exact xnewS C hR hS hN h2 (of_decide_eq_true hi) hlk hd hrc hrs (fun H1 hR1 hS1 => kk H1 locs trivial hR1 hS1)
    · cases h
  · -- newarray
    split at h
    · split at h
      · cases h
      · rename_i hn
        split at h
        · obtain ⟨rfl, rfl, rfl, rfl⟩ := xnx_at h
          simp only [xlen_make, xns_make, Nat.add_sub_cancel_left] at hrc hrs kk
          exact xnewaS C hR hS hN h2 (Or.inl ⟨rfl, rfl⟩) hn hd hrc hrs (fun H1 hR1 hS1 => kk H1 locs trivial hR1 hS1)
        · obtain ⟨rfl, rfl, rfl, rfl⟩ := xnx_at h
          simp only [xlen_make, xns_make, Nat.add_sub_cancel_left] at hrc hrs kk
          exact xnewaS C hR hS hN h2 (Or.inr (Or.inl ⟨rfl, rfl⟩)) hn hd hrc hrs (fun H1 hR1 hS1 => kk H1 locs trivial hR1 hS1)
        · obtain ⟨rfl, rfl, rfl, rfl⟩ := xnx_at h
          simp only [xlen_make, xns_make, Nat.add_sub_cancel_left] at hrc hrs kk
          exact xnewaS C hR hS hN h2 (Or.inr (Or.inr ⟨rfl, rfl⟩)) hn hd hrc hrs (fun H1 hR1 hS1 => kk H1 locs trivial hR1 hS1)
        · cases h
    · cases h
  · -- anewarray
    split at h
    · split at h
      · cases h
      · rename_i hn
        split at h
        · rename_i hlk
          obtain ⟨rfl, rfl, rfl, rfl⟩ := xnx_at h
          simp only [xlen_make, xns_make, Nat.add_sub_cancel_left] at hrc hrs kk
          exact xanewS C hR hS hN h2 (of_decide_eq_true hi) hlk (Or.inl ⟨rfl, rfl⟩) hn hd hrc hrs (fun H1 hR1 hS1 => kk H1 locs trivial hR1 hS1)
        · rename_i hlk
          obtain ⟨rfl, rfl, rfl, rfl⟩ := xnx_at h
          simp only [xlen_make, xns_make, Nat.add_sub_cancel_left] at hrc hrs kk
          exact xanewS C hR hS hN h2 (of_decide_eq_true hi) hlk (Or.inr ⟨rfl, rfl⟩) hn hd hrc hrs (fun H1 hR1 hS1 => kk H1 locs trivial hR1 hS1)
        · cases h
    · cases h
  · -- arraylength
    split at h
    · split at h
      · rename_i hsh
        split at h
        · rename_i hk
          obtain ⟨rfl, rfl, rfl, rfl⟩ := xnx_at h
          exact xalenS C hR hS hsh hk.1 hd (xkeep (μ := μ) rfl (kk H locs rfl hR hS))
        · cases h
      · cases h
    · cases h
  · -- iaload
    split at h
    · split at h
      · rename_i hsh
        split at h
        · rename_i hk
          obtain ⟨rfl, rfl, rfl, rfl⟩ := xnx_at h
          exact xialoadS C hR hS hsh hk.1 hk.2 hd (xkeep (μ := μ) rfl (kk H locs rfl hR hS))
        · cases h
      · cases h
    · cases h
  · -- laload
    split at h
    · split at h
      · rename_i hsh
        split at h
        · rename_i hk
          obtain ⟨rfl, rfl, rfl, rfl⟩ := xnx_at h
          obtain ⟨rfl, hin⟩ := hk
          obtain ⟨h3, hw⟩ := xarrW hR hsh (by omega)
          obtain ⟨hx, hb, -, hown, hts, hK, hO, -⟩ := C
          exact va_lald hx hb hK.1 hR.2.2.2.2.2 _ 1 (f := μ.2.2.1 _) hw rfl (xinp hin) hd (xkeep (μ := μ) rfl (kk H locs rfl hR hS))
        · cases h
      · cases h
    · cases h
  · -- baload
    split at h
    · split at h
      · rename_i hsh
        split at h
        · rename_i hk
          obtain ⟨rfl, rfl, rfl, rfl⟩ := xnx_at h
          obtain ⟨rfl, hin⟩ := hk
          obtain ⟨h3, hw⟩ := xarrW hR hsh (by omega)
          obtain ⟨hx, hb, -, hown, hts, hK, hO, -⟩ := C
          exact va_zald hx hb hK.1 hR.2.2.2.2.2 _ 2 (f := μ.2.1 _) hw rfl (xinp hin) hd (xkeep (μ := μ) rfl (kk H locs rfl hR hS))
        · cases h
      · cases h
    · cases h
  · -- aaload
    split at h
    · split at h
      · rename_i hsh
        split at h
        · rename_i hk
          obtain ⟨rfl, rfl, rfl, rfl⟩ := xnx_at h
          obtain ⟨hk, hin⟩ := hk
          have kk1 := xkeep (μ := μ) rfl (kk H locs rfl hR hS)
          simp only [List.map_cons, xv_rf] at kk1
          obtain ⟨hx, hb, -, hown, hts, hK, hO, -⟩ := C
          rcases hk with rfl | rfl
          · obtain ⟨h3, hw⟩ := xarrW hR hsh (by omega)
            exact va_aldq hx hb hK.1 hR.2.2.2.2.2 _ 3 (f := fun j => (μ.2.2.2 _ j).map (xad G)) hw rfl (xinp hin) hd kk1
          · obtain ⟨h3, hw⟩ := xarrW hR hsh (by omega)
            exact va_aldq hx hb hK.1 hR.2.2.2.2.2 _ 4 (f := fun j => (μ.2.2.2 _ j).map (xad G)) hw rfl (xinp hin) hd kk1
        · cases h
      · cases h
    · cases h
  · -- iastore
    split at h
    · split at h
      · rename_i hsh
        split at h
        · rename_i hk
          obtain ⟨rfl, rfl, rfl, rfl⟩ := xnx_at h
          obtain ⟨rfl, hin⟩ := hk
          exact xiastoreS C hR hS hsh hin hd (fun H1 locs1 hR1 hS1 => xkeep (μ := μ) rfl (kk H1 locs1 rfl hR1 hS1))
        · cases h
      · cases h
    · cases h
  · -- lastore
    split at h
    · split at h
      · rename_i hsh
        split at h
        · rename_i hk
          obtain ⟨rfl, rfl, rfl, rfl⟩ := xnx_at h
          obtain ⟨rfl, hin⟩ := hk
          exact xlastoreS C hR hS hsh hin hd (fun H1 locs1 hR1 hS1 => xkeep (μ := μ) rfl (kk H1 locs1 rfl hR1 hS1))
        · cases h
      · cases h
    · cases h
  · -- bastore
    split at h
    · split at h
      · rename_i hsh
        split at h
        · rename_i hk
          obtain ⟨rfl, rfl, rfl, rfl⟩ := xnx_at h
          obtain ⟨rfl, hin, h01⟩ := hk
          exact xbastoreS C hR hS hsh hin h01 hd (fun H1 locs1 hR1 hS1 => xkeep (μ := μ) rfl (kk H1 locs1 rfl hR1 hS1))
        · cases h
      · cases h
    · cases h
  · -- aastore
    split at h
    · split at h
      · rename_i hsh hsv
        split at h
        · rename_i hk
          obtain ⟨rfl, rfl, rfl, rfl⟩ := xnx_at h
          exact xaastoreS C hR hS hsh hsv hk.1 hk.2 hd (fun H1 locs1 hR1 hS1 => xkeep (μ := μ) rfl (kk H1 locs1 rfl hR1 hS1))
        · cases h
      · cases h
    · cases h
  · cases h
theorem xheap_inl {mid c : Nat} {ins : Instr} {pc : Nat} {loc st : List Value} {μ : xM} {r : Option Value ⊕ (Nat × List Value × List Value)} : xheap mid c ins pc loc st μ ≠ some (.inr r) := by
  intro h
  unfold xheap at h
  split at h <;> (repeat' split at h) <;> first | (cases h; done) | (simp [xnx] at h; done)
/-- the shapes only grow -/
theorem xheap_ext {mid c : Nat} {ins : Instr} {pc : Nat} {loc st : List Value} {μ : xM} {pc' : Nat} {loc' st' : List Value} {μ' : xM} (h : xheap mid c ins pc loc st μ = some (.inl (pc', loc', st', μ'))) : ∃ t, μ'.1 = μ.1 ++ t := by
  unfold xheap at h
  split at h
  · repeat' split at h
    all_goals first | (cases h; done) | (obtain ⟨-, -, -, rfl⟩ := xnx_at h; exact ⟨[], by simp⟩)
  · repeat' split at h
    all_goals first | (cases h; done) | (rename_i hp; obtain ⟨-, -, -, rfl⟩ := xnx_at h; exact ⟨[], by rw [xput_sh hp]; simp⟩)
  · repeat' split at h
    all_goals first | (cases h; done) | (obtain ⟨-, -, -, rfl⟩ := xnx_at h; exact ⟨[], by simp⟩)
  all_goals
    repeat' split at h
    all_goals first | (cases h; done) | (obtain ⟨-, -, -, rfl⟩ := xnx_at h; first | exact ⟨_, rfl⟩ | exact ⟨[], by simp⟩)
end XALL
