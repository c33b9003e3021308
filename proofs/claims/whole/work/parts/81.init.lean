/-! the first state, and the claim out of the rows of the calls -/
set_option maxRecDepth 10000 in
theorem MI_at {a j : Nat} {v : Int32} (h : (a, j, v) ∈ MIl) : xm2.2.1 a j = v := by
  have h1 := List.all_eq_true.mp MI_ok _ h
  exact of_decide_eq_true h1
theorem LET_ok : ∀ k : Fin 6, xm2.2.1 1 k.val = ltrI k.val := by decide +kernel
set_option maxRecDepth 10000 in
theorem LET_at {k : Nat} (hk : k < 6) : xm2.2.1 1 k = ltrI k := LET_ok ⟨k, hk⟩
theorem inv0 {mi : Nat → Nat → Int32} {ml : Nat → Nat → Int64} (hm : ∀ a j, a ≠ 0 → mi a j = xm2.2.1 a j) (hl : ml = xm2.2.2.1) : Inv mi ml := by
  have hlt : lets mi := fun k hk => by rw [hm 1 k (by decide), LET_at hk]
  have at' : ∀ {a j : Nat} {v : Int32}, a ≠ 0 → (a, j, v) ∈ MIl → mi a j = v := fun ha h => (hm _ _ ha).trans (MI_at h)
  refine ⟨hlt, fun _ => none, fun _ => none, [], [], fun _ => none, (0, 0, fun _ => 0, 0, 1), ⟨⟨by decide, fun i hi => absurd hi (Nat.not_lt_zero i)⟩, ⟨by decide, fun n hn => absurd hn (Nat.not_lt_zero n)⟩, fun k _ D h => by cases h⟩, ⟨fun r hr => ⟨?_, fun xs h => by cases h⟩, fun r hr => ⟨?_, fun xs h => by cases h⟩, ⟨?_, ?_, ?_, ⟨?_, fun j hj => absurd hj (Nat.not_lt_zero j)⟩, fun i hi => absurd hi (Nat.not_lt_zero i)⟩, fun k hk => ?_, ?_, ?_, fun f hf => ?_, ?_, ?_⟩, fun r hr => ⟨?_, fun xs h => by cases h⟩, fun r hr => ⟨?_, fun xs h => by cases h⟩, ⟨?_, ?_, fun i hi => absurd hi (Nat.not_lt_zero i), fun k hk => ?_, fun n k hn => absurd hn (Nat.not_lt_zero n)⟩, fun k hk => ⟨?_, fun D h => by cases h⟩, ?_, ?_, fun f hf => ?_, ?_, ?_⟩
  · show mi (5 + 2 * r) 1 = -1
    rcases (show r = 0 ∨ r = 1 ∨ r = 2 ∨ r = 3 ∨ r = 4 ∨ r = 5 by omega) with rfl | rfl | rfl | rfl | rfl | rfl <;> exact at' (by decide) (by decide +kernel)
  · show mi (19 + 2 * r) 1 = -1
    rcases (show r = 0 ∨ r = 1 ∨ r = 2 ∨ r = 3 by omega) with rfl | rfl | rfl | rfl <;> exact at' (by decide) (by decide +kernel)
  · exact at' (v := 0) (by decide) (by decide +kernel)
  · exact at' (v := 0) (by decide) (by decide +kernel)
  · exact at' (v := 10) (by decide) (by decide +kernel)
  · exact at' (v := 0) (by decide) (by decide +kernel)
  · show mi (29 + 2 * k) 1 = -1
    rcases (show k = 0 ∨ k = 1 ∨ k = 2 by omega) with rfl | rfl | rfl <;> exact at' (by decide) (by decide +kernel)
  · exact at' (by decide) (by decide +kernel)
  · exact at' (by decide) (by decide +kernel)
  · show mi 67 f = 0
    rcases (show f = 0 ∨ f = 1 ∨ f = 2 ∨ f = 3 ∨ f = 4 ∨ f = 5 by omega) with rfl | rfl | rfl | rfl | rfl | rfl <;> exact at' (by decide) (by decide +kernel)
  · rw [hl]; exact ML_ok.1
  · rw [hl]; exact ML_ok.2.1
  · show mi 69 r = -1
    rcases (show r = 0 ∨ r = 1 ∨ r = 2 ∨ r = 3 ∨ r = 4 ∨ r = 5 by omega) with rfl | rfl | rfl | rfl | rfl | rfl <;> exact at' (by decide) (by decide +kernel)
  · show mi 71 r = -1
    rcases (show r = 0 ∨ r = 1 ∨ r = 2 ∨ r = 3 by omega) with rfl | rfl | rfl | rfl <;> exact at' (by decide) (by decide +kernel)
  · exact at' (v := 0) (by decide) (by decide +kernel)
  · exact at' (v := 0) (by decide) (by decide +kernel)
  · rcases (show k = 0 ∨ k = 1 ∨ k = 2 ∨ k = 3 ∨ k = 4 ∨ k = 5 ∨ k = 6 ∨ k = 7 ∨ k = 8 ∨ k = 9 ∨ k = 10 ∨ k = 11 ∨ k = 12 ∨ k = 13 ∨ k = 14 by omega) with rfl | rfl | rfl | rfl | rfl | rfl | rfl | rfl | rfl | rfl | rfl | rfl | rfl | rfl | rfl
    all_goals first | exact at' (v := 0) (by decide) (by decide +kernel) | exact at' (v := 10) (by decide) (by decide +kernel)
  · show mi 80 k = 0
    rcases (show k = 0 ∨ k = 1 ∨ k = 2 by omega) with rfl | rfl | rfl <;> exact at' (by decide) (by decide +kernel)
  · exact at' (by decide) (by decide +kernel)
  · exact at' (by decide) (by decide +kernel)
  · show mi 81 f = 0
    rcases (show f = 0 ∨ f = 1 ∨ f = 2 ∨ f = 3 ∨ f = 4 ∨ f = 5 by omega) with rfl | rfl | rfl | rfl | rfl | rfl <;> exact at' (by decide) (by decide +kernel)
  · rw [hl]; exact ML_ok.2.2.1
  · rw [hl]; exact ML_ok.2.2.2
theorem whole_of (ops : Ops) {p : Program} {e : Env} {s : State} {m : MethodId} {below : List Frame} {meth : Method} {c : Code} (l : Launch) {b L : Nat} {xs : Nat → Int32} (hL : L ≤ 384) (C0 : lw_At p s m meth c b L xs) : W p l e room_1 s m #[Value.ref b] below meth c s.heap [] 0 0 (lw_Z below #[Value.ref b] s) (entryFrame m ([Value.ref b] : List Value).toArray 4) := by
  refine xstart l C0 (xlaw16 (fun mi ml h0 h1 h2 => ?_))
  rw [s241_16]
  exact law_loop ops hL (xs := xs) (L + 1) 0 mi ml (by omega) (by omega) (inv0 h1 h2)
