/-! count's numbers, at any depth -/
def cntV (R T : pR) (P : pP) (D : List Nat) (K : Nat → Option (List Nat)) (f : Nat) : Int32 :=
  if f = 0 then nI P.length else if f = 1 then nI (gD (rep P D)) else if f = 2 then nI D.length else if f = 3 then nI (sN (gP (rep P D)) 6) else if f = 4 then nI (sN (gW (rep P D)) 6) else if f = 5 then nI (maskN (fun j => !gE (rep P D) j) P.length) else if f = 6 then nI (gL (rep P D)) else if f = 7 then nI (sN (fun i => if ofN (pl P i).1 1 then 1 else 0) P.length) else if f = 8 then nI (sN (isN R) 6) else if f = 9 then nI (sN (isN T) 4) else nI (sN (isN K) 3)
section CNTV
variable {R T : pR} {P : pP} {D : List Nat} {K : Nat → Option (List Nat)} {S : pS} {L : Nat} {mi : Nat → Nat → Int32} {ml : Nat → Nat → Int64} {d : Nat} {Q : Option Value → xM → Prop} {f : Nat}
theorem c137 (hok : ok P D K) (h : Cst R T P D K S mi ml) (hf : f < 11) : Xm 137 [.ref 2, .int (nI f)] (SH L, mi, ml, MR) (d + 5) Q = Q (some (.int (cntV R T P D K f))) (SH L, mi, ml, MR) := by
  have hP := hok.1.1
  have sw : sN (gW (rep P D)) P.length = sN (gW (rep P D)) 6 := by
    have := sN_ext (f := gW (rep P D)) (n := P.length) (6 - P.length) (fun j hj => (rep_out' hok.2.1 hj).1)
    rw [show P.length + (6 - P.length) = 6 by omega] at this
    exact this.symm
  have sp : sN (gP (rep P D)) P.length = sN (gP (rep P D)) 6 := by
    have := sN_ext (f := gP (rep P D)) (n := P.length) (6 - P.length) (fun j hj => (rep_out' hok.2.1 hj).2)
    rw [show P.length + (6 - P.length) = 6 by omega] at this
    exact this.symm
  rw [s137]
  rcases (by omega : f = 0 ∨ f = 1 ∨ f = 2 ∨ f = 3 ∨ f = 4 ∨ f = 5 ∨ f = 6 ∨ f = 7 ∨ f = 8 ∨ f = 9 ∨ f = 10) with rfl | rfl | rfl | rfl | rfl | rfl | rfl | rfl | rfl | rfl | rfl
  · rw [if_pos (by decide), s16, h.2.2.1.1, ret1, s137_67]
    rfl
  · rw [if_neg (by decide), if_pos (by decide), s18, h.2.2.1.2.1, ret1, s137_75]
    rfl
  · rw [if_neg (by decide), if_neg (by decide), if_pos (by decide), s20, ret1, s137_83 (sh40 L), c88 (sh40 L) h.2.2.1.2.2.2.1, ret1, s137_86, show szI (some (D.map nI)) = nI D.length from congrArg nI (List.length_map _)]
    rfl
  · rw [if_neg (by decide), if_neg (by decide), if_neg (by decide), if_pos (by decide)]
    refine (c31 (d := d) (f := 5) (by omega) hok.1 hok.2.1 h.2.2.1 (gP (rep P D)) (fun i hi => rfl)).trans ?_
    rw [ret1, s137_95, sp]
    rfl
  · rw [if_neg (by decide), if_neg (by decide), if_neg (by decide), if_neg (by decide), if_pos (by decide)]
    refine (c31 (d := d) (f := 4) (by omega) hok.1 hok.2.1 h.2.2.1 (gW (rep P D)) (fun i hi => rfl)).trans ?_
    rw [ret1, s137_104, sw]
    rfl
  · rw [if_neg (by decide), if_neg (by decide), if_neg (by decide), if_neg (by decide), if_neg (by decide), if_pos (by decide), c30 hP h.2.2.1, ret1, s137_112]
    rfl
  · rw [if_neg (by decide), if_neg (by decide), if_neg (by decide), if_neg (by decide), if_neg (by decide), if_neg (by decide), if_pos (by decide), s19, h.2.2.1.2.2.1, ret1, s137_120]
    rfl
  · rw [if_neg (by decide), if_neg (by decide), if_neg (by decide), if_neg (by decide), if_neg (by decide), if_neg (by decide), if_neg (by decide), if_pos (by decide), c32 hok.1 h.2.2.1, ret1, s137_128]
    rfl
  · rw [if_neg (by decide), if_neg (by decide), if_neg (by decide), if_neg (by decide), if_neg (by decide), if_neg (by decide), if_neg (by decide), if_neg (by decide), if_pos (by decide)]
    refine (c83 (shRows L) (by omega) (by omega) (by omega) R (fun k hk => h.1 k hk)).trans ?_
    rw [ret1, s137_136]
    rfl
  · rw [if_neg (by decide), if_neg (by decide), if_neg (by decide), if_neg (by decide), if_neg (by decide), if_neg (by decide), if_neg (by decide), if_neg (by decide), if_neg (by decide), if_pos (by decide)]
    refine (c83 (shTexts L) (by omega) (by omega) (by omega) T (fun k hk => h.2.1 k hk)).trans ?_
    rw [ret1, s137_144]
    rfl
  · rw [if_neg (by decide), if_neg (by decide), if_neg (by decide), if_neg (by decide), if_neg (by decide), if_neg (by decide), if_neg (by decide), if_neg (by decide), if_neg (by decide), if_neg (by decide), if_pos (by decide)]
    refine (c83 (shKept L) (by omega) (by omega) (by omega) (fun k => (K k).map (fun D => D.map nI)) (fun k hk => ⟨h.2.2.2.1 k hk, fun xs hxs => kept_le hok.2.2 hk hxs⟩)).trans ?_
    rw [ret1, s137_152, kept_n K 3]
    rfl
theorem c233 (hok : ok P D K) (h : Mst R T P D K S mi ml) (hf : f < 11) : Xm 233 [.ref 68, .int (nI f)] (SH L, mi, ml, MR) (d + 1) Q = Q (some (.int (cntV R T P D K f))) (SH L, mi, ml, MR) := by
  have hP := hok.1.1
  rw [s233]
  refine ((p4 (d := d) hf hok.1 h.2.2.1.1 (fun i hi => mG_pl h.2.2.1 hi)).trans ((p47 hf h.1).trans (p84 hf h.2.1))).trans ?_
  rcases (by omega : f = 0 ∨ f = 1 ∨ f = 2 ∨ f = 3 ∨ f = 4 ∨ f = 5 ∨ f = 6 ∨ f = 7 ∨ f = 8 ∨ f = 9 ∨ f = 10) with rfl | rfl | rfl | rfl | rfl | rfl | rfl | rfl | rfl | rfl | rfl
  · rw [s233_120 (fun _ z => absurd z (by decide)), if_pos (show nI 0 < 3 by decide), if_neg (by decide), if_pos (by decide), h.2.2.1.1]
    rfl
  · rw [s233_120 (fun _ z => absurd z (by decide)), if_pos (show nI 0 < 3 by decide), if_neg (by decide), if_neg (by decide), if_pos (by decide), mg_d (mG_g h.2.2.1)]
    rfl
  · rw [s233_120 (fun _ z => absurd z (by decide)), if_pos (show nI 0 < 3 by decide), if_neg (by decide), if_neg (by decide), if_neg (by decide), if_pos (by decide), h.2.2.1.2.1]
    rfl
  · rw [s233_120 (fun _ z => absurd z (by decide)), if_pos (show nI 0 < 3 by decide), if_neg (by decide), if_neg (by decide), if_neg (by decide), if_neg (by decide), if_pos (by decide)]
    refine (c232 (a := 6) (by omega) (gP (rep P D)) (fun j hj => by rw [h.2.2.1.2.2.2.1 (6 + j) (by omega)]; unfold encN; rw [if_neg (by omega), if_pos (by omega), Nat.add_sub_cancel_left])).trans ?_
    rw [ret1, s233_220]
    rfl
  · rw [s233_120 (fun _ z => absurd z (by decide)), if_pos (show nI 0 < 3 by decide), if_neg (by decide), if_neg (by decide), if_neg (by decide), if_neg (by decide), if_neg (by decide), if_pos (by decide)]
    refine (c232 (a := 0) (by omega) (gW (rep P D)) (fun j hj => by rw [h.2.2.1.2.2.2.1 (0 + j) (by omega), Nat.zero_add]; unfold encN; rw [if_pos hj])).trans ?_
    rw [ret1, s233_226]
    rfl
  · rw [s233_120 (fun _ z => absurd z (by decide)), if_pos (show nI 0 < 3 by decide), if_neg (by decide), if_neg (by decide), if_neg (by decide), if_neg (by decide), if_neg (by decide), if_neg (by decide), if_pos (by decide), s195, h.2.2.1.1, mg_m (mG_g h.2.2.1), left_n _ hP, ret1, s233_231]
    rfl
  · rw [s233_120 (fun _ z => absurd z (by decide)), if_pos (show nI 0 < 3 by decide), if_neg (by decide), if_neg (by decide), if_neg (by decide), if_neg (by decide), if_neg (by decide), if_neg (by decide), if_neg (by decide), if_pos (by decide), mg_l (mG_g h.2.2.1)]
    rfl
  · rw [s233_120 (fun _ z => absurd z (by decide)), if_pos (show nI 0 < 3 by decide), if_neg (by decide), if_neg (by decide), if_neg (by decide), if_neg (by decide), if_neg (by decide), if_neg (by decide), if_neg (by decide), if_neg (by decide)]
    show Q (some (.int (nI (sN (fun i => if ofN (pl P i).1 1 then 1 else 0) P.length + 0 + 0)))) _ = _
    rfl
  · rw [s233_120 (fun _ z => absurd z (by decide)), if_pos (show nI 0 < 3 by decide), if_neg (by decide), if_neg (by decide), if_neg (by decide), if_neg (by decide), if_neg (by decide), if_neg (by decide), if_neg (by decide), if_neg (by decide)]
    show Q (some (.int (nI (0 + sN (isN R) 6 + 0)))) _ = _
    rw [Nat.zero_add]
    rfl
  · rw [s233_120 (fun _ z => absurd z (by decide)), if_pos (show nI 0 < 3 by decide), if_neg (by decide), if_neg (by decide), if_neg (by decide), if_neg (by decide), if_neg (by decide), if_neg (by decide), if_neg (by decide), if_neg (by decide)]
    show Q (some (.int (nI (0 + 0 + sN (isN T) 4)))) _ = _
    rw [Nat.zero_add]
    rfl
  · refine (p120 (d := d) h.2.2.2.1).trans ?_
    show Q (some (.int (nI (0 + 0 + 0 + sN (isN K) 3)))) _ = _
    rw [Nat.zero_add]
    rfl
end CNTV
