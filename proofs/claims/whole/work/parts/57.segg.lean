/-! segments with dead locals left open -/
theorem s140_33g {u4 u5 : Value} {L : Nat} {mi : Nat → Nat → Int32} {ml : Nat → Nat → Int64} {d : Nat} {Q : Option Value → xM → Prop} {x3 : Int32} {x1 : Int64}  : X 140 33 [.ref 2, .long x1, xmk, .int x3, u4, u5] [] (SH L, mi, ml, MR) (d + 1) Q =
    Xm 16 [.ref 38] (SH L, mi, ml, MR) d (fun v μ' => X 140 41 [.ref 2, .long x1, xmk, .int x3, u4, u5] (v.toList ++ [.int x3]) μ' (d + 1) Q) := by
  refine (R_pure0 (ins := .iload_n 3) (len := 1) (loc' := [.ref 2, .long x1, xmk, .int x3, u4, u5]) (st' := [.int x3]) (by decide +kernel) (fun _ => rfl)).trans ?_
  refine (R_pure0 (ins := .aload_n 0) (len := 1) (loc' := [.ref 2, .long x1, xmk, .int x3, u4, u5]) (st' := [.ref 2, .int x3]) (by decide +kernel) (fun _ => rfl)).trans ?_
  refine (R_gr (i := 34) (ci := 9) (k := 4) (n := 12) (b := 38) (by decide +kernel) (by decide +kernel) (by decide) rfl (SH_ref (by decide +kernel))).trans ?_
  refine (R_virt (i := 135) (f := 16) (kd := 0) (na := 0) (ml := 1) (ci := 2) (n := 5) (b := 38) (As := []) (rest := [.int x3]) (by decide +kernel) (by decide +kernel) (by decide) (by decide +kernel) rfl (by decide +kernel) rfl rfl (by decide +kernel) (Nat.le_of_ble_eq_true rfl)).trans ?_
  rfl
theorem s140_41g {u4 u5 : Value} {L : Nat} {mi : Nat → Nat → Int32} {ml : Nat → Nat → Int64} {d : Nat} {Q : Option Value → xM → Prop} {x3 y z0 : Int32} {x1 : Int64}  : X 140 41 [.ref 2, .long x1, xmk, .int x3, u4, u5] [.int y, .int z0] (SH L, mi, ml, MR) (d + 1) Q =
    if (z0 < y) then (Xm 15 [.ref 38, .int x3] (SH L, mi, ml, MR) d (fun v μ' => X 140 52 [.ref 2, .long x1, xmk, .int x3, u4, u5] (v.toList ++ []) μ' (d + 1) Q)) else (X 140 105 [.ref 2, .long x1, xmk, .int 0, u4, u5] [] (SH L, mi, ml, MR) (d + 1) Q) := by
  refine (R_icmp_ge (off := 62) (t := 103) (by decide +kernel) (by decide +kernel)).trans (ite_congr rfl (fun c0 => ?_) (fun c0 => ?_))
  · refine (R_pure0 (ins := .aload_n 0) (len := 1) (loc' := [.ref 2, .long x1, xmk, .int x3, u4, u5]) (st' := [.ref 2]) (by decide +kernel) (fun _ => rfl)).trans ?_
    refine (R_gr (i := 34) (ci := 9) (k := 4) (n := 12) (b := 38) (by decide +kernel) (by decide +kernel) (by decide) rfl (SH_ref (by decide +kernel))).trans ?_
    refine (R_pure0 (ins := .iload_n 3) (len := 1) (loc' := [.ref 2, .long x1, xmk, .int x3, u4, u5]) (st' := [.int x3, .ref 38]) (by decide +kernel) (fun _ => rfl)).trans ?_
    refine (R_virt (i := 136) (f := 15) (kd := 0) (na := 1) (ml := 2) (ci := 2) (n := 5) (b := 38) (As := [.int x3]) (rest := []) (by decide +kernel) (by decide +kernel) (by decide) (by decide +kernel) rfl (by decide +kernel) rfl rfl (by decide +kernel) (Nat.le_of_ble_eq_true rfl)).trans ?_
    rfl
  · refine (R_iconst (n := 0) (v := 0) (by decide +kernel) (by decide +kernel)).trans ?_
    refine (R_pure0 (ins := .istore_n 3) (len := 1) (loc' := [.ref 2, .long x1, xmk, .int 0, u4, u5]) (st' := []) (by decide +kernel) (fun _ => rfl)).trans ?_
    rfl
theorem s140_52g {u4 u5 : Value} {L : Nat} {mi : Nat → Nat → Int32} {ml : Nat → Nat → Int64} {d : Nat} {Q : Option Value → xM → Prop} {x3 : Int32} {x1 : Int64} {ry : Nat} (hS_ry : (SH L)[ry]? = some (4, 7)) : X 140 52 [.ref 2, .long x1, xmk, .int x3, u4, u5] [.ref ry] (SH L, mi, ml, MR) d Q =
    X 140 57 [.ref 2, .long x1, xmk, .int x3, .ref ry, .int 0] [] (SH L, mi, ml, MR) d Q := by
  refine (R_pure0 (ins := .astore 4) (len := 2) (loc' := [.ref 2, .long x1, xmk, .int x3, .ref ry, u5]) (st' := []) (by decide +kernel) (fun _ => rfl)).trans ?_
  refine (R_iconst (n := 0) (v := 0) (by decide +kernel) (by decide +kernel)).trans ?_
  refine (R_pure0 (ins := .istore 5) (len := 2) (loc' := [.ref 2, .long x1, xmk, .int x3, .ref ry, .int 0]) (st' := []) (by decide +kernel) (fun _ => rfl)).trans ?_
  rfl
theorem s140_105g {u4 u5 : Value} {L : Nat} {mi : Nat → Nat → Int32} {ml : Nat → Nat → Int64} {d : Nat} {Q : Option Value → xM → Prop} {x3 : Int32} {x1 : Int64}  : X 140 105 [.ref 2, .long x1, xmk, .int x3, u4, u5] [] (SH L, mi, ml, MR) (d + 1) Q =
    if (x3 < 3) then (Xm 82 [.ref 27, .int x3] (SH L, mi, ml, MR) d (fun v μ' => X 140 118 [.ref 2, .long x1, xmk, .int x3, u4, u5] (v.toList ++ []) μ' (d + 1) Q)) else (Xm 85 [.ref 3, .long x1] (SH L, mi, ml, MR) d (fun v μ' => X 140 160 [.ref 2, .long x1, xmk, .int x3, u4, u5] (v.toList ++ [.ref 17]) μ' (d + 1) Q)) := by
  refine (R_pure0 (ins := .iload_n 3) (len := 1) (loc' := [.ref 2, .long x1, xmk, .int x3, u4, u5]) (st' := [.int x3]) (by decide +kernel) (fun _ => rfl)).trans ?_
  refine (R_iconst (n := 3) (v := 3) (by decide +kernel) (by decide +kernel)).trans ?_
  refine (R_icmp_ge (off := 41) (t := 148) (by decide +kernel) (by decide +kernel)).trans (ite_congr rfl (fun c0 => ?_) (fun c0 => ?_))
  · refine (R_pure0 (ins := .aload_n 0) (len := 1) (loc' := [.ref 2, .long x1, xmk, .int x3, u4, u5]) (st' := [.ref 2]) (by decide +kernel) (fun _ => rfl)).trans ?_
    refine (R_gr (i := 21) (ci := 9) (k := 2) (n := 12) (b := 27) (by decide +kernel) (by decide +kernel) (by decide) rfl (SH_ref (by decide +kernel))).trans ?_
    refine (R_pure0 (ins := .iload_n 3) (len := 1) (loc' := [.ref 2, .long x1, xmk, .int x3, u4, u5]) (st' := [.int x3, .ref 27]) (by decide +kernel) (fun _ => rfl)).trans ?_
    refine (R_virt (i := 81) (f := 82) (kd := 0) (na := 1) (ml := 2) (ci := 7) (n := 1) (b := 27) (As := [.int x3]) (rest := []) (by decide +kernel) (by decide +kernel) (by decide) (by decide +kernel) rfl (by decide +kernel) rfl rfl (by decide +kernel) (Nat.le_of_ble_eq_true rfl)).trans ?_
    rfl
  · refine (R_pure0 (ins := .aload_n 0) (len := 1) (loc' := [.ref 2, .long x1, xmk, .int x3, u4, u5]) (st' := [.ref 2]) (by decide +kernel) (fun _ => rfl)).trans ?_
    refine (R_gr (i := 18) (ci := 9) (k := 1) (n := 12) (b := 17) (by decide +kernel) (by decide +kernel) (by decide) rfl (SH_ref (by decide +kernel))).trans ?_
    refine (R_pure0 (ins := .aload_n 0) (len := 1) (loc' := [.ref 2, .long x1, xmk, .int x3, u4, u5]) (st' := [.ref 2, .ref 17]) (by decide +kernel) (fun _ => rfl)).trans ?_
    refine (R_gr (i := 14) (ci := 9) (k := 0) (n := 12) (b := 3) (by decide +kernel) (by decide +kernel) (by decide) rfl (SH_ref (by decide +kernel))).trans ?_
    refine (R_pure0 (ins := .lload_n 1) (len := 1) (loc' := [.ref 2, .long x1, xmk, .int x3, u4, u5]) (st' := [.long x1, .ref 3, .ref 17]) (by decide +kernel) (fun _ => rfl)).trans ?_
    refine (R_virt (i := 325) (f := 85) (kd := 0) (na := 1) (ml := 8) (ci := 7) (n := 1) (b := 3) (As := [.long x1]) (rest := [.ref 17]) (by decide +kernel) (by decide +kernel) (by decide) (by decide +kernel) rfl (by decide +kernel) rfl rfl (by decide +kernel) (Nat.le_of_ble_eq_true rfl)).trans ?_
    rfl
theorem s140_118g {u4 u5 : Value} {L : Nat} {mi : Nat → Nat → Int32} {ml : Nat → Nat → Int64} {d : Nat} {Q : Option Value → xM → Prop} {x3 : Int32} {x1 : Int64} {ry : Nat} {n_ry : Nat} (hS_ry : isStrip L ry n_ry) : X 140 118 [.ref 2, .long x1, xmk, .int x3, u4, u5] [.ref ry] (SH L, mi, ml, MR) (d + 1) Q =
    Xm 88 [.ref ry] (SH L, mi, ml, MR) d (fun v μ' => X 140 139 [.ref 2, .long x1, xmk, .int x3, .ref ry, u5] (v.toList ++ [.long (31 * x1)]) μ' (d + 1) Q) := by
  refine (R_pure0 (ins := .astore 4) (len := 2) (loc' := [.ref 2, .long x1, xmk, .int x3, .ref ry, u5]) (st' := []) (by decide +kernel) (fun _ => rfl)).trans ?_
  refine (R_pure0 (ins := .aload 4) (len := 2) (loc' := [.ref 2, .long x1, xmk, .int x3, .ref ry, u5]) (st' := [.ref ry]) (by decide +kernel) (fun _ => rfl)).trans ?_
  refine (R_ifnonnull_r (off := 7) (t := 129) (by decide +kernel) (by decide +kernel)).trans ?_
  refine (R_ldc2 (i := 320) (v := 31) (by decide +kernel) (by decide +kernel)).trans ?_
  refine (R_pure0 (ins := .lload_n 1) (len := 1) (loc' := [.ref 2, .long x1, xmk, .int x3, .ref ry, u5]) (st' := [.long x1, .long 31]) (by decide +kernel) (fun _ => rfl)).trans ?_
  refine (R_pure0 (ins := .lmul) (len := 1) (loc' := [.ref 2, .long x1, xmk, .int x3, .ref ry, u5]) (st' := [.long (31 * x1)]) (by decide +kernel) (fun _ => rfl)).trans ?_
  refine (R_pure0 (ins := .aload 4) (len := 2) (loc' := [.ref 2, .long x1, xmk, .int x3, .ref ry, u5]) (st' := [.ref ry, .long (31 * x1)]) (by decide +kernel) (fun _ => rfl)).trans ?_
  refine (R_virt (i := 120) (f := 88) (kd := 0) (na := 0) (ml := 1) (ci := 8) (n := 2) (b := ry) (As := []) (rest := [.long (31 * x1)]) (by decide +kernel) (by decide +kernel) (by decide) (by decide +kernel) rfl (by decide +kernel) hS_ry.1 rfl (by decide +kernel) (Nat.le_of_ble_eq_true rfl)).trans ?_
  rfl
theorem s140_139g {u4 u5 : Value} {L : Nat} {mi : Nat → Nat → Int32} {ml : Nat → Nat → Int64} {d : Nat} {Q : Option Value → xM → Prop} {x3 y : Int32} {x1 z0 : Int64}  : X 140 139 [.ref 2, .long x1, xmk, .int x3, u4, u5] [.int y, .long z0] (SH L, mi, ml, MR) d Q =
    X 140 105 [.ref 2, .long (z0 + y.toInt64), xmk, .int (x3 + 1), u4, u5] [] (SH L, mi, ml, MR) d Q := by
  refine (R_pure0 (ins := .i2l) (len := 1) (loc' := [.ref 2, .long x1, xmk, .int x3, u4, u5]) (st' := [.long y.toInt64, .long z0]) (by decide +kernel) (fun _ => rfl)).trans ?_
  refine (R_pure0 (ins := .ladd) (len := 1) (loc' := [.ref 2, .long x1, xmk, .int x3, u4, u5]) (st' := [.long (z0 + y.toInt64)]) (by decide +kernel) (fun _ => rfl)).trans ?_
  refine (R_pure0 (ins := .lstore_n 1) (len := 1) (loc' := [.ref 2, .long (z0 + y.toInt64), xmk, .int x3, u4, u5]) (st' := []) (by decide +kernel) (fun _ => rfl)).trans ?_
  refine (R_iinc (k := 3) (n := 1) (x := x3) (v := (x3 + 1)) (loc' := [.ref 2, .long (z0 + y.toInt64), xmk, .int (x3 + 1), u4, u5]) (by decide +kernel) rfl rfl rfl).trans ?_
  refine (R_goto (off := (-40)) (t := 105) (by decide +kernel) (by decide +kernel)).trans ?_
  rfl
theorem s140_160g {u4 u5 : Value} {L : Nat} {mi : Nat → Nat → Int32} {ml : Nat → Nat → Int64} {d : Nat} {Q : Option Value → xM → Prop} {x3 : Int32} {x1 y : Int64}  : X 140 160 [.ref 2, .long x1, xmk, .int x3, u4, u5] [.long y, .ref 17] (SH L, mi, ml, MR) (d + 1) Q =
    Xm 85 [.ref 17, .long y] (SH L, mi, ml, MR) d (fun v μ' => X 140 163 [.ref 2, .long x1, xmk, .int x3, u4, u5] (v.toList ++ []) μ' (d + 1) Q) := by
  refine (R_virt (i := 325) (f := 85) (kd := 0) (na := 1) (ml := 8) (ci := 7) (n := 1) (b := 17) (As := [.long y]) (rest := []) (by decide +kernel) (by decide +kernel) (by decide) (by decide +kernel) rfl (by decide +kernel) rfl rfl (by decide +kernel) (Nat.le_of_ble_eq_true rfl)).trans ?_
  rfl
theorem s140_163g {u4 u5 : Value} {L : Nat} {mi : Nat → Nat → Int32} {ml : Nat → Nat → Int64} {d : Nat} {Q : Option Value → xM → Prop} {x3 : Int32} {x1 y : Int64}  : X 140 163 [.ref 2, .long x1, xmk, .int x3, u4, u5] [.long y] (SH L, mi, ml, MR) d Q =
    Q (some (.long y)) (SH L, mi, ml, MR) := by
  exact R_lreturn (by decide +kernel) (by decide +kernel)
theorem s85_5g {u6 u7 : Value} {L : Nat} {mi : Nat → Nat → Int32} {ml : Nat → Nat → Int64} {d : Nat} {Q : Option Value → xM → Prop} {x5 : Int32} {x1 x3 : Int64} {a rb21 : Nat} {n_a : Nat} {n_rb21 : Nat} (hS_a : isShelf L a n_a) (hS_rb21 : isStrip L rb21 n_rb21) (h1 : (x5 < (Int32.ofNat n_a)) → xin x5 n_a = true) (h2 : (x5 < (Int32.ofNat n_a)) → MR (a + 1) x5.toNatClampNeg = some rb21) : X 85 5 [.ref a, .long x1, xmk, .long x3, xmk, .int x5, u6, u7] [] (SH L, mi, ml, MR) (d + 1) Q =
    if (x5 < (Int32.ofNat n_a)) then (Xm 88 [.ref rb21] (SH L, mi, ml, MR) d (fun v μ' => X 85 43 [.ref a, .long x1, xmk, .long x3, xmk, .int x5, .ref rb21, u7] (v.toList ++ [.long (31 * x3)]) μ' (d + 1) Q)) else (Q (some (.long x3)) (SH L, mi, ml, MR)) := by
  refine (R_pure0 (ins := .iload 5) (len := 2) (loc' := [.ref a, .long x1, xmk, .long x3, xmk, .int x5, u6, u7]) (st' := [.int x5]) (by decide +kernel) (fun _ => rfl)).trans ?_
  refine (R_pure0 (ins := .aload_n 0) (len := 1) (loc' := [.ref a, .long x1, xmk, .long x3, xmk, .int x5, u6, u7]) (st' := [.ref a, .int x5]) (by decide +kernel) (fun _ => rfl)).trans ?_
  refine (R_gr (i := 15) (ci := 7) (k := 0) (n := 1) (b := (a + 1)) (by decide +kernel) (by decide +kernel) (by decide) hS_a.1 hS_a.2.1).trans ?_
  refine (R_arraylength (kd := 103) (n := n_a) (by decide +kernel) hS_a.2.2 (by decide)).trans ?_
  refine (R_icmp_ge (off := 79) (t := 91) (by decide +kernel) (by decide +kernel)).trans (ite_congr rfl (fun c0 => ?_) (fun c0 => ?_))
  · refine (R_pure0 (ins := .aload_n 0) (len := 1) (loc' := [.ref a, .long x1, xmk, .long x3, xmk, .int x5, u6, u7]) (st' := [.ref a]) (by decide +kernel) (fun _ => rfl)).trans ?_
    refine (R_gr (i := 15) (ci := 7) (k := 0) (n := 1) (b := (a + 1)) (by decide +kernel) (by decide +kernel) (by decide) hS_a.1 hS_a.2.1).trans ?_
    refine (R_pure0 (ins := .iload 5) (len := 2) (loc' := [.ref a, .long x1, xmk, .long x3, xmk, .int x5, u6, u7]) (st' := [.int x5, .ref (a + 1)]) (by decide +kernel) (fun _ => rfl)).trans ?_
    refine (R_aaload (kd := 103) (n := n_a) (b := rb21) (by decide +kernel) hS_a.2.2 (by decide) (h1 c0) (h2 c0)).trans ?_
    refine (R_pure0 (ins := .astore 6) (len := 2) (loc' := [.ref a, .long x1, xmk, .long x3, xmk, .int x5, .ref rb21, u7]) (st' := []) (by decide +kernel) (fun _ => rfl)).trans ?_
    refine (R_pure0 (ins := .aload 6) (len := 2) (loc' := [.ref a, .long x1, xmk, .long x3, xmk, .int x5, .ref rb21, u7]) (st' := [.ref rb21]) (by decide +kernel) (fun _ => rfl)).trans ?_
    refine (R_ifnonnull_r (off := 7) (t := 33) (by decide +kernel) (by decide +kernel)).trans ?_
    refine (R_ldc2 (i := 31) (v := 31) (by decide +kernel) (by decide +kernel)).trans ?_
    refine (R_pure0 (ins := .lload_n 3) (len := 1) (loc' := [.ref a, .long x1, xmk, .long x3, xmk, .int x5, .ref rb21, u7]) (st' := [.long x3, .long 31]) (by decide +kernel) (fun _ => rfl)).trans ?_
    refine (R_pure0 (ins := .lmul) (len := 1) (loc' := [.ref a, .long x1, xmk, .long x3, xmk, .int x5, .ref rb21, u7]) (st' := [.long (31 * x3)]) (by decide +kernel) (fun _ => rfl)).trans ?_
    refine (R_pure0 (ins := .aload 6) (len := 2) (loc' := [.ref a, .long x1, xmk, .long x3, xmk, .int x5, .ref rb21, u7]) (st' := [.ref rb21, .long (31 * x3)]) (by decide +kernel) (fun _ => rfl)).trans ?_
    refine (R_virt (i := 33) (f := 88) (kd := 0) (na := 0) (ml := 1) (ci := 8) (n := 2) (b := rb21) (As := []) (rest := [.long (31 * x3)]) (by decide +kernel) (by decide +kernel) (by decide) (by decide +kernel) rfl (by decide +kernel) hS_rb21.1 rfl (by decide +kernel) (Nat.le_of_ble_eq_true rfl)).trans ?_
    rfl
  · refine (R_pure0 (ins := .lload_n 3) (len := 1) (loc' := [.ref a, .long x1, xmk, .long x3, xmk, .int x5, u6, u7]) (st' := [.long x3]) (by decide +kernel) (fun _ => rfl)).trans ?_
    exact R_lreturn (by decide +kernel) (by decide +kernel)
theorem s85_43g {u7 : Value} {L : Nat} {mi : Nat → Nat → Int32} {ml : Nat → Nat → Int64} {d : Nat} {Q : Option Value → xM → Prop} {x5 y : Int32} {x1 x3 z0 : Int64} {a r6 : Nat} {n_a : Nat} {n_r6 : Nat} (hS_a : isShelf L a n_a) (hS_r6 : isStrip L r6 n_r6) : X 85 43 [.ref a, .long x1, xmk, .long x3, xmk, .int x5, .ref r6, u7] [.int y, .long z0] (SH L, mi, ml, MR) d Q =
    X 85 49 [.ref a, .long x1, xmk, .long (z0 + y.toInt64), xmk, .int x5, .ref r6, .int 0] [] (SH L, mi, ml, MR) d Q := by
  refine (R_pure0 (ins := .i2l) (len := 1) (loc' := [.ref a, .long x1, xmk, .long x3, xmk, .int x5, .ref r6, u7]) (st' := [.long y.toInt64, .long z0]) (by decide +kernel) (fun _ => rfl)).trans ?_
  refine (R_pure0 (ins := .ladd) (len := 1) (loc' := [.ref a, .long x1, xmk, .long x3, xmk, .int x5, .ref r6, u7]) (st' := [.long (z0 + y.toInt64)]) (by decide +kernel) (fun _ => rfl)).trans ?_
  refine (R_pure0 (ins := .lstore_n 3) (len := 1) (loc' := [.ref a, .long x1, xmk, .long (z0 + y.toInt64), xmk, .int x5, .ref r6, u7]) (st' := []) (by decide +kernel) (fun _ => rfl)).trans ?_
  refine (R_iconst (n := 0) (v := 0) (by decide +kernel) (by decide +kernel)).trans ?_
  refine (R_pure0 (ins := .istore 7) (len := 2) (loc' := [.ref a, .long x1, xmk, .long (z0 + y.toInt64), xmk, .int x5, .ref r6, .int 0]) (st' := []) (by decide +kernel) (fun _ => rfl)).trans ?_
  rfl
theorem s237_33g {u4 : Value} {L : Nat} {mi : Nat → Nat → Int32} {ml : Nat → Nat → Int64} {d : Nat} {Q : Option Value → xM → Prop} {x3 : Int32} {x1 : Int64} : X 237 33 [.ref 68, .long x1, xmk, .int x3, u4] [] (SH L, mi, ml, MR) d Q =
    if (x3 < (mi 68 4)) then (X 237 44 [.ref 68, .long x1, xmk, .int x3, .int 0] [] (SH L, mi, ml, MR) d Q) else (X 237 80 [.ref 68, .long x1, xmk, .int 0, u4] [] (SH L, mi, ml, MR) d Q) := by
  refine (R_pure0 (ins := .iload_n 3) (len := 1) (loc' := [.ref 68, .long x1, xmk, .int x3, u4]) (st' := [.int x3]) (by decide +kernel) (fun _ => rfl)).trans ?_
  refine (R_pure0 (ins := .aload_n 0) (len := 1) (loc' := [.ref 68, .long x1, xmk, .int x3, u4]) (st' := [.ref 68, .int x3]) (by decide +kernel) (fun _ => rfl)).trans ?_
  refine (R_gi (i := 131) (ci := 10) (k := 4) (n := 33) (by decide +kernel) (by decide +kernel) (by decide) rfl).trans ?_
  refine (R_icmp_ge (off := 40) (t := 78) (by decide +kernel) (by decide +kernel)).trans (ite_congr rfl (fun c0 => ?_) (fun c0 => ?_))
  · refine (R_iconst (n := 0) (v := 0) (by decide +kernel) (by decide +kernel)).trans ?_
    refine (R_pure0 (ins := .istore 4) (len := 2) (loc' := [.ref 68, .long x1, xmk, .int x3, .int 0]) (st' := []) (by decide +kernel) (fun _ => rfl)).trans ?_
    rfl
  · refine (R_iconst (n := 0) (v := 0) (by decide +kernel) (by decide +kernel)).trans ?_
    refine (R_pure0 (ins := .istore_n 3) (len := 1) (loc' := [.ref 68, .long x1, xmk, .int 0, u4]) (st' := []) (by decide +kernel) (fun _ => rfl)).trans ?_
    rfl
theorem s237_80g {u4 : Value} {L : Nat} {mi : Nat → Nat → Int32} {ml : Nat → Nat → Int64} {d : Nat} {Q : Option Value → xM → Prop} {x3 : Int32} {x1 : Int64} (h1 : (x3 < 3) → xin x3 3 = true) (h2 : (x3 < 3) → ¬ ((mi 80 x3.toNatClampNeg) = 0) → xin ((616 * x3) + 615) 1848 = true) : X 237 80 [.ref 68, .long x1, xmk, .int x3, u4] [] (SH L, mi, ml, MR) d Q =
    if (x3 < 3) then (if ((mi 80 x3.toNatClampNeg) = 0) then (X 237 80 [.ref 68, .long ((31 * x1) + ((-1) : Int32).toInt64), xmk, .int (x3 + 1), u4] [] (SH L, mi, ml, MR) d Q) else (X 237 80 [.ref 68, .long ((31 * x1) + (mi 79 ((616 * x3) + 615).toNatClampNeg).toInt64), xmk, .int (x3 + 1), u4] [] (SH L, mi, ml, MR) d Q)) else (X 237 128 [.ref 68, .long x1, xmk, .int 0, u4] [] (SH L, mi, ml, MR) d Q) := by
  refine (R_pure0 (ins := .iload_n 3) (len := 1) (loc' := [.ref 68, .long x1, xmk, .int x3, u4]) (st' := [.int x3]) (by decide +kernel) (fun _ => rfl)).trans ?_
  refine (R_iconst (n := 3) (v := 3) (by decide +kernel) (by decide +kernel)).trans ?_
  refine (R_icmp_ge (off := 44) (t := 126) (by decide +kernel) (by decide +kernel)).trans (ite_congr rfl (fun c0 => ?_) (fun c0 => ?_))
  · refine (R_ldc2 (i := 299) (v := 31) (by decide +kernel) (by decide +kernel)).trans ?_
    refine (R_pure0 (ins := .lload_n 1) (len := 1) (loc' := [.ref 68, .long x1, xmk, .int x3, u4]) (st' := [.long x1, .long 31]) (by decide +kernel) (fun _ => rfl)).trans ?_
    refine (R_pure0 (ins := .lmul) (len := 1) (loc' := [.ref 68, .long x1, xmk, .int x3, u4]) (st' := [.long (31 * x1)]) (by decide +kernel) (fun _ => rfl)).trans ?_
    refine (R_pure0 (ins := .aload_n 0) (len := 1) (loc' := [.ref 68, .long x1, xmk, .int x3, u4]) (st' := [.ref 68, .long (31 * x1)]) (by decide +kernel) (fun _ => rfl)).trans ?_
    refine (R_gr (i := 43) (ci := 10) (k := 13) (n := 33) (b := 80) (by decide +kernel) (by decide +kernel) (by decide) rfl (SH_ref (by decide +kernel))).trans ?_
    refine (R_pure0 (ins := .iload_n 3) (len := 1) (loc' := [.ref 68, .long x1, xmk, .int x3, u4]) (st' := [.int x3, .ref 80, .long (31 * x1)]) (by decide +kernel) (fun _ => rfl)).trans ?_
    refine (R_baload (n := 3) (by decide +kernel) rfl (h1 c0)).trans ?_
    refine (R_if_eq (off := 20) (t := 116) (by decide +kernel) (by decide +kernel)).trans (ite_congr rfl (fun c1 => ?_) (fun c1 => ?_))
    · refine (R_iconst (n := (-1)) (v := (-1)) (by decide +kernel) (by decide +kernel)).trans ?_
      refine (R_pure0 (ins := .i2l) (len := 1) (loc' := [.ref 68, .long x1, xmk, .int x3, u4]) (st' := [.long ((-1) : Int32).toInt64, .long (31 * x1)]) (by decide +kernel) (fun _ => rfl)).trans ?_
      refine (R_pure0 (ins := .ladd) (len := 1) (loc' := [.ref 68, .long x1, xmk, .int x3, u4]) (st' := [.long ((31 * x1) + ((-1) : Int32).toInt64)]) (by decide +kernel) (fun _ => rfl)).trans ?_
      refine (R_pure0 (ins := .lstore_n 1) (len := 1) (loc' := [.ref 68, .long ((31 * x1) + ((-1) : Int32).toInt64), xmk, .int x3, u4]) (st' := []) (by decide +kernel) (fun _ => rfl)).trans ?_
      refine (R_iinc (k := 3) (n := 1) (x := x3) (v := (x3 + 1)) (loc' := [.ref 68, .long ((31 * x1) + ((-1) : Int32).toInt64), xmk, .int (x3 + 1), u4]) (by decide +kernel) rfl rfl rfl).trans ?_
      refine (R_goto (off := (-43)) (t := 80) (by decide +kernel) (by decide +kernel)).trans ?_
      rfl
    · refine (R_pure0 (ins := .aload_n 0) (len := 1) (loc' := [.ref 68, .long x1, xmk, .int x3, u4]) (st' := [.ref 68, .long (31 * x1)]) (by decide +kernel) (fun _ => rfl)).trans ?_
      refine (R_gr (i := 40) (ci := 10) (k := 12) (n := 33) (b := 79) (by decide +kernel) (by decide +kernel) (by decide) rfl (SH_ref (by decide +kernel))).trans ?_
      refine (R_sipush (n := 616) (v := 616) (by decide +kernel) (by decide +kernel)).trans ?_
      refine (R_pure0 (ins := .iload_n 3) (len := 1) (loc' := [.ref 68, .long x1, xmk, .int x3, u4]) (st' := [.int x3, .int 616, .ref 79, .long (31 * x1)]) (by decide +kernel) (fun _ => rfl)).trans ?_
      refine (R_pure0 (ins := .imul) (len := 1) (loc' := [.ref 68, .long x1, xmk, .int x3, u4]) (st' := [.int (616 * x3), .ref 79, .long (31 * x1)]) (by decide +kernel) (fun _ => rfl)).trans ?_
      refine (R_sipush (n := 615) (v := 615) (by decide +kernel) (by decide +kernel)).trans ?_
      refine (R_pure0 (ins := .iadd) (len := 1) (loc' := [.ref 68, .long x1, xmk, .int x3, u4]) (st' := [.int ((616 * x3) + 615), .ref 79, .long (31 * x1)]) (by decide +kernel) (fun _ => rfl)).trans ?_
      refine (R_iaload (kd := 100) (n := 1848) (by decide +kernel) rfl (by decide) (h2 c0 c1)).trans ?_
      refine (R_goto (off := 4) (t := 117) (by decide +kernel) (by decide +kernel)).trans ?_
      refine (R_pure0 (ins := .i2l) (len := 1) (loc' := [.ref 68, .long x1, xmk, .int x3, u4]) (st' := [.long (mi 79 ((616 * x3) + 615).toNatClampNeg).toInt64, .long (31 * x1)]) (by decide +kernel) (fun _ => rfl)).trans ?_
      refine (R_pure0 (ins := .ladd) (len := 1) (loc' := [.ref 68, .long x1, xmk, .int x3, u4]) (st' := [.long ((31 * x1) + (mi 79 ((616 * x3) + 615).toNatClampNeg).toInt64)]) (by decide +kernel) (fun _ => rfl)).trans ?_
      refine (R_pure0 (ins := .lstore_n 1) (len := 1) (loc' := [.ref 68, .long ((31 * x1) + (mi 79 ((616 * x3) + 615).toNatClampNeg).toInt64), xmk, .int x3, u4]) (st' := []) (by decide +kernel) (fun _ => rfl)).trans ?_
      refine (R_iinc (k := 3) (n := 1) (x := x3) (v := (x3 + 1)) (loc' := [.ref 68, .long ((31 * x1) + (mi 79 ((616 * x3) + 615).toNatClampNeg).toInt64), xmk, .int (x3 + 1), u4]) (by decide +kernel) rfl rfl rfl).trans ?_
      refine (R_goto (off := (-43)) (t := 80) (by decide +kernel) (by decide +kernel)).trans ?_
      rfl
  · refine (R_iconst (n := 0) (v := 0) (by decide +kernel) (by decide +kernel)).trans ?_
    refine (R_pure0 (ins := .istore_n 3) (len := 1) (loc' := [.ref 68, .long x1, xmk, .int 0, u4]) (st' := []) (by decide +kernel) (fun _ => rfl)).trans ?_
    rfl
theorem s237_128g {u4 : Value} {L : Nat} {mi : Nat → Nat → Int32} {ml : Nat → Nat → Int64} {d : Nat} {Q : Option Value → xM → Prop} {x3 : Int32} {x1 : Int64} (h1 : (x3 < 6) → xin x3 6 = true) : X 237 128 [.ref 68, .long x1, xmk, .int x3, u4] [] (SH L, mi, ml, MR) d Q =
    if (x3 < 6) then (X 237 151 [.ref 68, .long ((31 * x1) + (mi 69 x3.toNatClampNeg).toInt64), xmk, .int x3, .int 0] [] (SH L, mi, ml, MR) d Q) else (X 237 196 [.ref 68, .long x1, xmk, .int 0, u4] [] (SH L, mi, ml, MR) d Q) := by
  refine (R_pure0 (ins := .iload_n 3) (len := 1) (loc' := [.ref 68, .long x1, xmk, .int x3, u4]) (st' := [.int x3]) (by decide +kernel) (fun _ => rfl)).trans ?_
  refine (R_bipush (n := 6) (v := 6) (by decide +kernel) (by decide +kernel)).trans ?_
  refine (R_icmp_ge (off := 63) (t := 194) (by decide +kernel) (by decide +kernel)).trans (ite_congr rfl (fun c0 => ?_) (fun c0 => ?_))
  · refine (R_ldc2 (i := 299) (v := 31) (by decide +kernel) (by decide +kernel)).trans ?_
    refine (R_pure0 (ins := .lload_n 1) (len := 1) (loc' := [.ref 68, .long x1, xmk, .int x3, u4]) (st' := [.long x1, .long 31]) (by decide +kernel) (fun _ => rfl)).trans ?_
    refine (R_pure0 (ins := .lmul) (len := 1) (loc' := [.ref 68, .long x1, xmk, .int x3, u4]) (st' := [.long (31 * x1)]) (by decide +kernel) (fun _ => rfl)).trans ?_
    refine (R_pure0 (ins := .aload_n 0) (len := 1) (loc' := [.ref 68, .long x1, xmk, .int x3, u4]) (st' := [.ref 68, .long (31 * x1)]) (by decide +kernel) (fun _ => rfl)).trans ?_
    refine (R_gr (i := 7) (ci := 10) (k := 0) (n := 33) (b := 69) (by decide +kernel) (by decide +kernel) (by decide) rfl (SH_ref (by decide +kernel))).trans ?_
    refine (R_pure0 (ins := .iload_n 3) (len := 1) (loc' := [.ref 68, .long x1, xmk, .int x3, u4]) (st' := [.int x3, .ref 69, .long (31 * x1)]) (by decide +kernel) (fun _ => rfl)).trans ?_
    refine (R_iaload (kd := 100) (n := 6) (by decide +kernel) rfl (by decide) (h1 c0)).trans ?_
    refine (R_pure0 (ins := .i2l) (len := 1) (loc' := [.ref 68, .long x1, xmk, .int x3, u4]) (st' := [.long (mi 69 x3.toNatClampNeg).toInt64, .long (31 * x1)]) (by decide +kernel) (fun _ => rfl)).trans ?_
    refine (R_pure0 (ins := .ladd) (len := 1) (loc' := [.ref 68, .long x1, xmk, .int x3, u4]) (st' := [.long ((31 * x1) + (mi 69 x3.toNatClampNeg).toInt64)]) (by decide +kernel) (fun _ => rfl)).trans ?_
    refine (R_pure0 (ins := .lstore_n 1) (len := 1) (loc' := [.ref 68, .long ((31 * x1) + (mi 69 x3.toNatClampNeg).toInt64), xmk, .int x3, u4]) (st' := []) (by decide +kernel) (fun _ => rfl)).trans ?_
    refine (R_iconst (n := 0) (v := 0) (by decide +kernel) (by decide +kernel)).trans ?_
    refine (R_pure0 (ins := .istore 4) (len := 2) (loc' := [.ref 68, .long ((31 * x1) + (mi 69 x3.toNatClampNeg).toInt64), xmk, .int x3, .int 0]) (st' := []) (by decide +kernel) (fun _ => rfl)).trans ?_
    rfl
  · refine (R_iconst (n := 0) (v := 0) (by decide +kernel) (by decide +kernel)).trans ?_
    refine (R_pure0 (ins := .istore_n 3) (len := 1) (loc' := [.ref 68, .long x1, xmk, .int 0, u4]) (st' := []) (by decide +kernel) (fun _ => rfl)).trans ?_
    rfl
theorem s237_196g {u4 : Value} {L : Nat} {mi : Nat → Nat → Int32} {ml : Nat → Nat → Int64} {d : Nat} {Q : Option Value → xM → Prop} {x3 : Int32} {x1 : Int64} (h1 : (x3 < 4) → xin x3 4 = true) : X 237 196 [.ref 68, .long x1, xmk, .int x3, u4] [] (SH L, mi, ml, MR) d Q =
    if (x3 < 4) then (X 237 218 [.ref 68, .long ((31 * x1) + (mi 71 x3.toNatClampNeg).toInt64), xmk, .int x3, .int 0] [] (SH L, mi, ml, MR) d Q) else (Q (some (.long x1)) (SH L, mi, ml, MR)) := by
  refine (R_pure0 (ins := .iload_n 3) (len := 1) (loc' := [.ref 68, .long x1, xmk, .int x3, u4]) (st' := [.int x3]) (by decide +kernel) (fun _ => rfl)).trans ?_
  refine (R_iconst (n := 4) (v := 4) (by decide +kernel) (by decide +kernel)).trans ?_
  refine (R_icmp_ge (off := 63) (t := 261) (by decide +kernel) (by decide +kernel)).trans (ite_congr rfl (fun c0 => ?_) (fun c0 => ?_))
  · refine (R_ldc2 (i := 299) (v := 31) (by decide +kernel) (by decide +kernel)).trans ?_
    refine (R_pure0 (ins := .lload_n 1) (len := 1) (loc' := [.ref 68, .long x1, xmk, .int x3, u4]) (st' := [.long x1, .long 31]) (by decide +kernel) (fun _ => rfl)).trans ?_
    refine (R_pure0 (ins := .lmul) (len := 1) (loc' := [.ref 68, .long x1, xmk, .int x3, u4]) (st' := [.long (31 * x1)]) (by decide +kernel) (fun _ => rfl)).trans ?_
    refine (R_pure0 (ins := .aload_n 0) (len := 1) (loc' := [.ref 68, .long x1, xmk, .int x3, u4]) (st' := [.ref 68, .long (31 * x1)]) (by decide +kernel) (fun _ => rfl)).trans ?_
    refine (R_gr (i := 16) (ci := 10) (k := 2) (n := 33) (b := 71) (by decide +kernel) (by decide +kernel) (by decide) rfl (SH_ref (by decide +kernel))).trans ?_
    refine (R_pure0 (ins := .iload_n 3) (len := 1) (loc' := [.ref 68, .long x1, xmk, .int x3, u4]) (st' := [.int x3, .ref 71, .long (31 * x1)]) (by decide +kernel) (fun _ => rfl)).trans ?_
    refine (R_iaload (kd := 100) (n := 4) (by decide +kernel) rfl (by decide) (h1 c0)).trans ?_
    refine (R_pure0 (ins := .i2l) (len := 1) (loc' := [.ref 68, .long x1, xmk, .int x3, u4]) (st' := [.long (mi 71 x3.toNatClampNeg).toInt64, .long (31 * x1)]) (by decide +kernel) (fun _ => rfl)).trans ?_
    refine (R_pure0 (ins := .ladd) (len := 1) (loc' := [.ref 68, .long x1, xmk, .int x3, u4]) (st' := [.long ((31 * x1) + (mi 71 x3.toNatClampNeg).toInt64)]) (by decide +kernel) (fun _ => rfl)).trans ?_
    refine (R_pure0 (ins := .lstore_n 1) (len := 1) (loc' := [.ref 68, .long ((31 * x1) + (mi 71 x3.toNatClampNeg).toInt64), xmk, .int x3, u4]) (st' := []) (by decide +kernel) (fun _ => rfl)).trans ?_
    refine (R_iconst (n := 0) (v := 0) (by decide +kernel) (by decide +kernel)).trans ?_
    refine (R_pure0 (ins := .istore 4) (len := 2) (loc' := [.ref 68, .long ((31 * x1) + (mi 71 x3.toNatClampNeg).toInt64), xmk, .int x3, .int 0]) (st' := []) (by decide +kernel) (fun _ => rfl)).trans ?_
    rfl
  · refine (R_pure0 (ins := .lload_n 1) (len := 1) (loc' := [.ref 68, .long x1, xmk, .int x3, u4]) (st' := [.long x1]) (by decide +kernel) (fun _ => rfl)).trans ?_
    exact R_lreturn (by decide +kernel) (by decide +kernel)
