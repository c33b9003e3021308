/-! segments with dead locals left open -/
theorem s79_48g {u4 : Value} {L : Nat} {mi : Nat → Nat → Int32} {ml : Nat → Nat → Int64} {d : Nat} {Q : Option Value → xM → Prop} {x1 x2 x3 : Int32} : X 79 48 [.ref 51, .int x1, .int x2, .int x3, u4] [] (SH L, mi, ml, MR) (d + 1) Q =
    Xm 16 [.ref 38] (SH L, mi, ml, MR) d (fun v μ' => X 79 56 [.ref 51, .int x1, .int x2, .int x3, u4] (v.toList ++ [.int x3]) μ' (d + 1) Q) := by
  refine (R_pure0 (ins := .iload_n 3) (len := 1) (loc' := [.ref 51, .int x1, .int x2, .int x3, u4]) (st' := [.int x3]) (by decide +kernel) (fun _ => rfl)).trans ?_
  refine (R_pure0 (ins := .aload_n 0) (len := 1) (loc' := [.ref 51, .int x1, .int x2, .int x3, u4]) (st' := [.ref 51, .int x3]) (by decide +kernel) (fun _ => rfl)).trans ?_
  refine (R_gr (i := 48) (ci := 6) (k := 0) (n := 12) (b := 38) (by decide +kernel) (by decide +kernel) (by decide) rfl (SH_ref (by decide +kernel))).trans ?_
  refine (R_virt (i := 102) (f := 16) (kd := 0) (na := 0) (ml := 1) (ci := 2) (n := 5) (b := 38) (As := []) (rest := [.int x3]) (by decide +kernel) (by decide +kernel) (by decide) (by decide +kernel) rfl (by decide +kernel) rfl rfl (by decide +kernel) (Nat.le_of_ble_eq_true rfl)).trans ?_
  rfl
theorem s79_56g {u4 : Value} {L : Nat} {mi : Nat → Nat → Int32} {ml : Nat → Nat → Int64} {d : Nat} {Q : Option Value → xM → Prop} {x1 x2 x3 y z0 : Int32} : X 79 56 [.ref 51, .int x1, .int x2, .int x3, u4] [.int y, .int z0] (SH L, mi, ml, MR) (d + 1) Q =
    if (z0 < y) then (Xm 90 [.ref 52, .int x1] (SH L, mi, ml, MR) d (fun v μ' => X 79 69 [.ref 51, .int x1, .int x2, .int x3, u4] (v.toList ++ [.int x3, .ref 51]) μ' (d + 1) Q)) else (Q none (SH L, mi, ml, MR)) := by
  refine (R_icmp_ge (off := 86) (t := 142) (by decide +kernel) (by decide +kernel)).trans (ite_congr rfl (fun c0 => ?_) (fun c0 => ?_))
  · refine (R_pure0 (ins := .aload_n 0) (len := 1) (loc' := [.ref 51, .int x1, .int x2, .int x3, u4]) (st' := [.ref 51]) (by decide +kernel) (fun _ => rfl)).trans ?_
    refine (R_pure0 (ins := .iload_n 3) (len := 1) (loc' := [.ref 51, .int x1, .int x2, .int x3, u4]) (st' := [.int x3, .ref 51]) (by decide +kernel) (fun _ => rfl)).trans ?_
    refine (R_pure0 (ins := .aload_n 0) (len := 1) (loc' := [.ref 51, .int x1, .int x2, .int x3, u4]) (st' := [.ref 51, .int x3, .ref 51]) (by decide +kernel) (fun _ => rfl)).trans ?_
    refine (R_gr (i := 14) (ci := 6) (k := 2) (n := 12) (b := 52) (by decide +kernel) (by decide +kernel) (by decide) rfl (SH_ref (by decide +kernel))).trans ?_
    refine (R_pure0 (ins := .iload_n 1) (len := 1) (loc' := [.ref 51, .int x1, .int x2, .int x3, u4]) (st' := [.int x1, .ref 52, .int x3, .ref 51]) (by decide +kernel) (fun _ => rfl)).trans ?_
    refine (R_virt (i := 81) (f := 90) (kd := 0) (na := 1) (ml := 2) (ci := 8) (n := 2) (b := 52) (As := [.int x1]) (rest := [.int x3, .ref 51]) (by decide +kernel) (by decide +kernel) (by decide) (by decide +kernel) rfl (by decide +kernel) rfl rfl (by decide +kernel) (Nat.le_of_ble_eq_true rfl)).trans ?_
    rfl
  · exact R_return (by decide +kernel) (by decide +kernel)
theorem s79_69g {u4 : Value} {L : Nat} {mi : Nat → Nat → Int32} {ml : Nat → Nat → Int64} {d : Nat} {Q : Option Value → xM → Prop} {x1 x2 x3 y z0 : Int32} : X 79 69 [.ref 51, .int x1, .int x2, .int x3, u4] [.int y, .int z0, .ref 51] (SH L, mi, ml, MR) (d + 1) Q =
    Xm 80 [.ref 51, .int z0, .int y, .int x2] (SH L, mi, ml, MR) d (fun v μ' => X 79 73 [.ref 51, .int x1, .int x2, .int x3, u4] (v.toList ++ []) μ' (d + 1) Q) := by
  refine (R_pure0 (ins := .iload_n 2) (len := 1) (loc' := [.ref 51, .int x1, .int x2, .int x3, u4]) (st' := [.int x2, .int y, .int z0, .ref 51]) (by decide +kernel) (fun _ => rfl)).trans ?_
  refine (R_virt (i := 127) (f := 80) (kd := 0) (na := 3) (ml := 7) (ci := 6) (n := 12) (b := 51) (As := [.int z0, .int y, .int x2]) (rest := []) (by decide +kernel) (by decide +kernel) (by decide) (by decide +kernel) rfl (by decide +kernel) rfl rfl (by decide +kernel) (Nat.le_of_ble_eq_true rfl)).trans ?_
  rfl
theorem s79_73g {u4 : Value} {L : Nat} {mi : Nat → Nat → Int32} {ml : Nat → Nat → Int64} {d : Nat} {Q : Option Value → xM → Prop} {x1 x2 x3 y : Int32} : X 79 73 [.ref 51, .int x1, .int x2, .int x3, u4] [.int y] (SH L, mi, ml, MR) (d + 1) Q =
    if (y = (-9)) then (X 79 48 [.ref 51, .int x1, .int x2, .int (x3 + 1), .int y] [] (SH L, mi, ml, MR) (d + 1) Q) else (Xm 91 [.ref 54, .int x1, .int x3] (SH L, mi, ml, MR) d (fun v μ' => X 79 91 [.ref 51, .int x1, .int x2, .int x3, .int y] (v.toList ++ []) μ' (d + 1) Q)) := by
  refine (R_pure0 (ins := .istore 4) (len := 2) (loc' := [.ref 51, .int x1, .int x2, .int x3, .int y]) (st' := []) (by decide +kernel) (fun _ => rfl)).trans ?_
  refine (R_pure0 (ins := .iload 4) (len := 2) (loc' := [.ref 51, .int x1, .int x2, .int x3, .int y]) (st' := [.int y]) (by decide +kernel) (fun _ => rfl)).trans ?_
  refine (R_bipush (n := (-9)) (v := (-9)) (by decide +kernel) (by decide +kernel)).trans ?_
  refine (R_icmp_eq (off := 57) (t := 136) (by decide +kernel) (by decide +kernel)).trans (ite_congr rfl (fun c0 => ?_) (fun c0 => ?_))
  · refine (R_iinc (k := 3) (n := 1) (x := x3) (v := (x3 + 1)) (loc' := [.ref 51, .int x1, .int x2, .int (x3 + 1), .int y]) (by decide +kernel) rfl rfl rfl).trans ?_
    refine (R_goto (off := (-91)) (t := 48) (by decide +kernel) (by decide +kernel)).trans ?_
    rfl
  · refine (R_pure0 (ins := .aload_n 0) (len := 1) (loc' := [.ref 51, .int x1, .int x2, .int x3, .int y]) (st' := [.ref 51]) (by decide +kernel) (fun _ => rfl)).trans ?_
    refine (R_gr (i := 20) (ci := 6) (k := 3) (n := 12) (b := 54) (by decide +kernel) (by decide +kernel) (by decide) rfl (SH_ref (by decide +kernel))).trans ?_
    refine (R_pure0 (ins := .iload_n 1) (len := 1) (loc' := [.ref 51, .int x1, .int x2, .int x3, .int y]) (st' := [.int x1, .ref 54]) (by decide +kernel) (fun _ => rfl)).trans ?_
    refine (R_pure0 (ins := .iload_n 3) (len := 1) (loc' := [.ref 51, .int x1, .int x2, .int x3, .int y]) (st' := [.int x3, .int x1, .ref 54]) (by decide +kernel) (fun _ => rfl)).trans ?_
    refine (R_virt (i := 124) (f := 91) (kd := 0) (na := 2) (ml := 3) (ci := 8) (n := 2) (b := 54) (As := [.int x1, .int x3]) (rest := []) (by decide +kernel) (by decide +kernel) (by decide) (by decide +kernel) rfl (by decide +kernel) rfl rfl (by decide +kernel) (Nat.le_of_ble_eq_true rfl)).trans ?_
    rfl
theorem s78_13g {u2 u3 u4 : Value} {L : Nat} {mi : Nat → Nat → Int32} {ml : Nat → Nat → Int64} {d : Nat} {Q : Option Value → xM → Prop} {x1 : Int32}  : X 78 13 [.ref 51, .int x1, u2, u3, u4] [] (SH L, mi, ml, MR) (d + 1) Q =
    Xm 16 [.ref 38] (SH L, mi, ml, MR) d (fun v μ' => X 78 21 [.ref 51, .int x1, u2, u3, u4] (v.toList ++ [.int x1]) μ' (d + 1) Q) := by
  refine (R_pure0 (ins := .iload_n 1) (len := 1) (loc' := [.ref 51, .int x1, u2, u3, u4]) (st' := [.int x1]) (by decide +kernel) (fun _ => rfl)).trans ?_
  refine (R_pure0 (ins := .aload_n 0) (len := 1) (loc' := [.ref 51, .int x1, u2, u3, u4]) (st' := [.ref 51, .int x1]) (by decide +kernel) (fun _ => rfl)).trans ?_
  refine (R_gr (i := 48) (ci := 6) (k := 0) (n := 12) (b := 38) (by decide +kernel) (by decide +kernel) (by decide) rfl (SH_ref (by decide +kernel))).trans ?_
  refine (R_virt (i := 102) (f := 16) (kd := 0) (na := 0) (ml := 1) (ci := 2) (n := 5) (b := 38) (As := []) (rest := [.int x1]) (by decide +kernel) (by decide +kernel) (by decide) (by decide +kernel) rfl (by decide +kernel) rfl rfl (by decide +kernel) (Nat.le_of_ble_eq_true rfl)).trans ?_
  rfl
theorem s78_21g {u2 u3 u4 : Value} {L : Nat} {mi : Nat → Nat → Int32} {ml : Nat → Nat → Int64} {d : Nat} {Q : Option Value → xM → Prop} {x1 y z0 : Int32}  : X 78 21 [.ref 51, .int x1, u2, u3, u4] [.int y, .int z0] (SH L, mi, ml, MR) (d + 1) Q =
    if (z0 < y) then (Xm 15 [.ref 38, .int x1] (SH L, mi, ml, MR) d (fun v μ' => X 78 32 [.ref 51, .int x1, u2, u3, u4] (v.toList ++ []) μ' (d + 1) Q)) else (Q none (SH L, mi, ml, MR)) := by
  refine (R_icmp_ge (off := 74) (t := 95) (by decide +kernel) (by decide +kernel)).trans (ite_congr rfl (fun c0 => ?_) (fun c0 => ?_))
  · refine (R_pure0 (ins := .aload_n 0) (len := 1) (loc' := [.ref 51, .int x1, u2, u3, u4]) (st' := [.ref 51]) (by decide +kernel) (fun _ => rfl)).trans ?_
    refine (R_gr (i := 48) (ci := 6) (k := 0) (n := 12) (b := 38) (by decide +kernel) (by decide +kernel) (by decide) rfl (SH_ref (by decide +kernel))).trans ?_
    refine (R_pure0 (ins := .iload_n 1) (len := 1) (loc' := [.ref 51, .int x1, u2, u3, u4]) (st' := [.int x1, .ref 38]) (by decide +kernel) (fun _ => rfl)).trans ?_
    refine (R_virt (i := 105) (f := 15) (kd := 0) (na := 1) (ml := 2) (ci := 2) (n := 5) (b := 38) (As := [.int x1]) (rest := []) (by decide +kernel) (by decide +kernel) (by decide) (by decide +kernel) rfl (by decide +kernel) rfl rfl (by decide +kernel) (Nat.le_of_ble_eq_true rfl)).trans ?_
    rfl
  · exact R_return (by decide +kernel) (by decide +kernel)
theorem s78_32g {u2 u3 u4 : Value} {L : Nat} {mi : Nat → Nat → Int32} {ml : Nat → Nat → Int64} {d : Nat} {Q : Option Value → xM → Prop} {x1 : Int32} {ry : Nat} (hS_ry : (SH L)[ry]? = some (4, 7)) : X 78 32 [.ref 51, .int x1, u2, u3, u4] [.ref ry] (SH L, mi, ml, MR) d Q =
    X 78 35 [.ref 51, .int x1, .ref ry, .int 0, u4] [] (SH L, mi, ml, MR) d Q := by
  refine (R_pure0 (ins := .astore_n 2) (len := 1) (loc' := [.ref 51, .int x1, .ref ry, u3, u4]) (st' := []) (by decide +kernel) (fun _ => rfl)).trans ?_
  refine (R_iconst (n := 0) (v := 0) (by decide +kernel) (by decide +kernel)).trans ?_
  refine (R_pure0 (ins := .istore_n 3) (len := 1) (loc' := [.ref 51, .int x1, .ref ry, .int 0, u4]) (st' := []) (by decide +kernel) (fun _ => rfl)).trans ?_
  rfl
theorem s78_35g {u4 : Value} {L : Nat} {mi : Nat → Nat → Int32} {ml : Nat → Nat → Int64} {d : Nat} {Q : Option Value → xM → Prop} {x1 x3 : Int32} {r2 : Nat} (hS_r2 : (SH L)[r2]? = some (4, 7)) : X 78 35 [.ref 51, .int x1, .ref r2, .int x3, u4] [] (SH L, mi, ml, MR) (d + 1) Q =
    if (x3 < 5) then (Xm 18 [.ref 38] (SH L, mi, ml, MR) d (fun v μ' => X 78 62 [.ref 51, .int x1, .ref r2, .int x3, u4] (v.toList ++ [.int (mi r2 4), .int ((mi r2 5) + x3), .ref r2]) μ' (d + 1) Q)) else (X 78 13 [.ref 51, .int (x1 + 1), .ref r2, .int x3, u4] [] (SH L, mi, ml, MR) (d + 1) Q) := by
  refine (R_pure0 (ins := .aload_n 2) (len := 1) (loc' := [.ref 51, .int x1, .ref r2, .int x3, u4]) (st' := [.ref r2]) (by decide +kernel) (fun _ => rfl)).trans ?_
  refine (R_ifnull_r (off := 53) (by decide +kernel)).trans ?_
  refine (R_pure0 (ins := .iload_n 3) (len := 1) (loc' := [.ref 51, .int x1, .ref r2, .int x3, u4]) (st' := [.int x3]) (by decide +kernel) (fun _ => rfl)).trans ?_
  refine (R_iconst (n := 5) (v := 5) (by decide +kernel) (by decide +kernel)).trans ?_
  refine (R_icmp_ge (off := 48) (t := 89) (by decide +kernel) (by decide +kernel)).trans (ite_congr rfl (fun c0 => ?_) (fun c0 => ?_))
  · refine (R_pure0 (ins := .aload_n 2) (len := 1) (loc' := [.ref 51, .int x1, .ref r2, .int x3, u4]) (st' := [.ref r2]) (by decide +kernel) (fun _ => rfl)).trans ?_
    refine (R_pure0 (ins := .aload_n 2) (len := 1) (loc' := [.ref 51, .int x1, .ref r2, .int x3, u4]) (st' := [.ref r2, .ref r2]) (by decide +kernel) (fun _ => rfl)).trans ?_
    refine (R_gi (i := 109) (ci := 4) (k := 5) (n := 7) (by decide +kernel) (by decide +kernel) (by decide) hS_r2).trans ?_
    refine (R_pure0 (ins := .iload_n 3) (len := 1) (loc' := [.ref 51, .int x1, .ref r2, .int x3, u4]) (st' := [.int x3, .int (mi r2 5), .ref r2]) (by decide +kernel) (fun _ => rfl)).trans ?_
    refine (R_pure0 (ins := .iadd) (len := 1) (loc' := [.ref 51, .int x1, .ref r2, .int x3, u4]) (st' := [.int ((mi r2 5) + x3), .ref r2]) (by decide +kernel) (fun _ => rfl)).trans ?_
    refine (R_pure0 (ins := .aload_n 2) (len := 1) (loc' := [.ref 51, .int x1, .ref r2, .int x3, u4]) (st' := [.ref r2, .int ((mi r2 5) + x3), .ref r2]) (by decide +kernel) (fun _ => rfl)).trans ?_
    refine (R_gi (i := 114) (ci := 4) (k := 4) (n := 7) (by decide +kernel) (by decide +kernel) (by decide) hS_r2).trans ?_
    refine (R_pure0 (ins := .aload_n 0) (len := 1) (loc' := [.ref 51, .int x1, .ref r2, .int x3, u4]) (st' := [.ref 51, .int (mi r2 4), .int ((mi r2 5) + x3), .ref r2]) (by decide +kernel) (fun _ => rfl)).trans ?_
    refine (R_gr (i := 48) (ci := 6) (k := 0) (n := 12) (b := 38) (by decide +kernel) (by decide +kernel) (by decide) rfl (SH_ref (by decide +kernel))).trans ?_
    refine (R_virt (i := 117) (f := 18) (kd := 0) (na := 0) (ml := 1) (ci := 2) (n := 5) (b := 38) (As := []) (rest := [.int (mi r2 4), .int ((mi r2 5) + x3), .ref r2]) (by decide +kernel) (by decide +kernel) (by decide) (by decide +kernel) rfl (by decide +kernel) rfl rfl (by decide +kernel) (Nat.le_of_ble_eq_true rfl)).trans ?_
    rfl
  · refine (R_iinc (k := 1) (n := 1) (x := x1) (v := (x1 + 1)) (loc' := [.ref 51, .int (x1 + 1), .ref r2, .int x3, u4]) (by decide +kernel) rfl rfl rfl).trans ?_
    refine (R_goto (off := (-79)) (t := 13) (by decide +kernel) (by decide +kernel)).trans ?_
    rfl
theorem s78_62g {u4 : Value} {L : Nat} {mi : Nat → Nat → Int32} {ml : Nat → Nat → Int64} {d : Nat} {Q : Option Value → xM → Prop} {x1 x3 y z0 z1 : Int32} {r2 : Nat} (hS_r2 : (SH L)[r2]? = some (4, 7)) : X 78 62 [.ref 51, .int x1, .ref r2, .int x3, u4] [.int y, .int z0, .int z1, .ref r2] (SH L, mi, ml, MR) (d + 1) Q =
    Xm 59 [.ref r2, .int z1, .int z0, .int y, .int 60] (SH L, mi, ml, MR) d (fun v μ' => X 78 67 [.ref 51, .int x1, .ref r2, .int x3, u4] (v.toList ++ []) μ' (d + 1) Q) := by
  refine (R_bipush (n := 60) (v := 60) (by decide +kernel) (by decide +kernel)).trans ?_
  refine (R_virt (i := 120) (f := 59) (kd := 0) (na := 4) (ml := 7) (ci := 4) (n := 7) (b := r2) (As := [.int z1, .int z0, .int y, .int 60]) (rest := []) (by decide +kernel) (by decide +kernel) (by decide) (by decide +kernel) rfl (by decide +kernel) hS_r2 rfl (by decide +kernel) (Nat.le_of_ble_eq_true rfl)).trans ?_
  rfl
theorem s78_67g {u4 : Value} {L : Nat} {mi : Nat → Nat → Int32} {ml : Nat → Nat → Int64} {d : Nat} {Q : Option Value → xM → Prop} {x1 x3 y : Int32} {r2 : Nat} (hS_r2 : (SH L)[r2]? = some (4, 7)) : X 78 67 [.ref 51, .int x1, .ref r2, .int x3, u4] [.int y] (SH L, mi, ml, MR) (d + 1) Q =
    Xm 91 [.ref 58, .int ((x1 * 5) + x3), .int y] (SH L, mi, ml, MR) d (fun v μ' => X 78 83 [.ref 51, .int x1, .ref r2, .int x3, .int y] (v.toList ++ []) μ' (d + 1) Q) := by
  refine (R_pure0 (ins := .istore 4) (len := 2) (loc' := [.ref 51, .int x1, .ref r2, .int x3, .int y]) (st' := []) (by decide +kernel) (fun _ => rfl)).trans ?_
  refine (R_pure0 (ins := .aload_n 0) (len := 1) (loc' := [.ref 51, .int x1, .ref r2, .int x3, .int y]) (st' := [.ref 51]) (by decide +kernel) (fun _ => rfl)).trans ?_
  refine (R_gr (i := 26) (ci := 6) (k := 5) (n := 12) (b := 58) (by decide +kernel) (by decide +kernel) (by decide) rfl (SH_ref (by decide +kernel))).trans ?_
  refine (R_pure0 (ins := .iload_n 1) (len := 1) (loc' := [.ref 51, .int x1, .ref r2, .int x3, .int y]) (st' := [.int x1, .ref 58]) (by decide +kernel) (fun _ => rfl)).trans ?_
  refine (R_iconst (n := 5) (v := 5) (by decide +kernel) (by decide +kernel)).trans ?_
  refine (R_pure0 (ins := .imul) (len := 1) (loc' := [.ref 51, .int x1, .ref r2, .int x3, .int y]) (st' := [.int (x1 * 5), .ref 58]) (by decide +kernel) (fun _ => rfl)).trans ?_
  refine (R_pure0 (ins := .iload_n 3) (len := 1) (loc' := [.ref 51, .int x1, .ref r2, .int x3, .int y]) (st' := [.int x3, .int (x1 * 5), .ref 58]) (by decide +kernel) (fun _ => rfl)).trans ?_
  refine (R_pure0 (ins := .iadd) (len := 1) (loc' := [.ref 51, .int x1, .ref r2, .int x3, .int y]) (st' := [.int ((x1 * 5) + x3), .ref 58]) (by decide +kernel) (fun _ => rfl)).trans ?_
  refine (R_pure0 (ins := .iload 4) (len := 2) (loc' := [.ref 51, .int x1, .ref r2, .int x3, .int y]) (st' := [.int y, .int ((x1 * 5) + x3), .ref 58]) (by decide +kernel) (fun _ => rfl)).trans ?_
  refine (R_virt (i := 124) (f := 91) (kd := 0) (na := 2) (ml := 3) (ci := 8) (n := 2) (b := 58) (As := [.int ((x1 * 5) + x3), .int y]) (rest := []) (by decide +kernel) (by decide +kernel) (by decide) (by decide +kernel) rfl (by decide +kernel) rfl rfl (by decide +kernel) (Nat.le_of_ble_eq_true rfl)).trans ?_
  rfl
theorem s209_51g {u8 : Value} {L : Nat} {mi : Nat → Nat → Int32} {ml : Nat → Nat → Int64} {d : Nat} {Q : Option Value → xM → Prop} {x1 x2 x3 x4 x5 x6 x7 : Int32} : X 209 51 [.ref 68, .int x1, .int x2, .int x3, .int x4, .int x5, .int x6, .int x7, u8] [] (SH L, mi, ml, MR) (d + 1) Q =
    if (x7 < x6) then (Xm 208 [.ref 68, .int x7, .int x1, .int 60] (SH L, mi, ml, MR) d (fun v μ' => X 209 67 [.ref 68, .int x1, .int x2, .int x3, .int x4, .int x5, .int x6, .int x7, u8] (v.toList ++ []) μ' (d + 1) Q)) else (if (x5 = 1000000) then (Q (some (.int (-9))) (SH L, mi, ml, MR)) else (Xm 188 [.ref 84, .int 0, .ref 70, .int (40 * x2), .int x4] (SH L, mi, ml, MR) d (fun v μ' => X 209 128 [.ref 68, .int x1, .int x2, .int x3, .int x4, .int x5, .int x6, .int x7, u8] (v.toList ++ []) μ' (d + 1) Q))) := by
  refine (R_pure0 (ins := .iload 7) (len := 2) (loc' := [.ref 68, .int x1, .int x2, .int x3, .int x4, .int x5, .int x6, .int x7, u8]) (st' := [.int x7]) (by decide +kernel) (fun _ => rfl)).trans ?_
  refine (R_pure0 (ins := .iload 6) (len := 2) (loc' := [.ref 68, .int x1, .int x2, .int x3, .int x4, .int x5, .int x6, .int x7, u8]) (st' := [.int x6, .int x7]) (by decide +kernel) (fun _ => rfl)).trans ?_
  refine (R_icmp_ge (off := 45) (t := 100) (by decide +kernel) (by decide +kernel)).trans (ite_congr rfl (fun c0 => ?_) (fun c0 => ?_))
  · refine (R_pure0 (ins := .aload_n 0) (len := 1) (loc' := [.ref 68, .int x1, .int x2, .int x3, .int x4, .int x5, .int x6, .int x7, u8]) (st' := [.ref 68]) (by decide +kernel) (fun _ => rfl)).trans ?_
    refine (R_pure0 (ins := .iload 7) (len := 2) (loc' := [.ref 68, .int x1, .int x2, .int x3, .int x4, .int x5, .int x6, .int x7, u8]) (st' := [.int x7, .ref 68]) (by decide +kernel) (fun _ => rfl)).trans ?_
    refine (R_pure0 (ins := .iload_n 1) (len := 1) (loc' := [.ref 68, .int x1, .int x2, .int x3, .int x4, .int x5, .int x6, .int x7, u8]) (st' := [.int x1, .int x7, .ref 68]) (by decide +kernel) (fun _ => rfl)).trans ?_
    refine (R_bipush (n := 60) (v := 60) (by decide +kernel) (by decide +kernel)).trans ?_
    refine (R_virt (i := 231) (f := 208) (kd := 0) (na := 3) (ml := 10) (ci := 10) (n := 33) (b := 68) (As := [.int x7, .int x1, .int 60]) (rest := []) (by decide +kernel) (by decide +kernel) (by decide) (by decide +kernel) rfl (by decide +kernel) rfl rfl (by decide +kernel) (Nat.le_of_ble_eq_true rfl)).trans ?_
    rfl
  · refine (R_pure0 (ins := .iload 5) (len := 2) (loc' := [.ref 68, .int x1, .int x2, .int x3, .int x4, .int x5, .int x6, .int x7, u8]) (st' := [.int x5]) (by decide +kernel) (fun _ => rfl)).trans ?_
    refine (R_ldc (i := 218) (v := 1000000) (by decide +kernel) (by decide +kernel)).trans ?_
    refine (R_icmp_ne (off := 6) (t := 110) (by decide +kernel) (by decide +kernel)).trans (ite_congr rfl (fun c1 => ?_) (fun c1 => ?_))
    · refine (R_bipush (n := (-9)) (v := (-9)) (by decide +kernel) (by decide +kernel)).trans ?_
      exact R_ireturn (by decide +kernel) (by decide +kernel)
    · refine (R_pure0 (ins := .aload_n 0) (len := 1) (loc' := [.ref 68, .int x1, .int x2, .int x3, .int x4, .int x5, .int x6, .int x7, u8]) (st' := [.ref 68]) (by decide +kernel) (fun _ => rfl)).trans ?_
      refine (R_gr (i := 60) (ci := 10) (k := 23) (n := 33) (b := 84) (by decide +kernel) (by decide +kernel) (by decide) rfl (SH_ref (by decide +kernel))).trans ?_
      refine (R_iconst (n := 0) (v := 0) (by decide +kernel) (by decide +kernel)).trans ?_
      refine (R_pure0 (ins := .aload_n 0) (len := 1) (loc' := [.ref 68, .int x1, .int x2, .int x3, .int x4, .int x5, .int x6, .int x7, u8]) (st' := [.ref 68, .int 0, .ref 84]) (by decide +kernel) (fun _ => rfl)).trans ?_
      refine (R_gr (i := 13) (ci := 10) (k := 1) (n := 33) (b := 70) (by decide +kernel) (by decide +kernel) (by decide) rfl (SH_ref (by decide +kernel))).trans ?_
      refine (R_bipush (n := 40) (v := 40) (by decide +kernel) (by decide +kernel)).trans ?_
      refine (R_pure0 (ins := .iload_n 2) (len := 1) (loc' := [.ref 68, .int x1, .int x2, .int x3, .int x4, .int x5, .int x6, .int x7, u8]) (st' := [.int x2, .int 40, .ref 70, .int 0, .ref 84]) (by decide +kernel) (fun _ => rfl)).trans ?_
      refine (R_pure0 (ins := .imul) (len := 1) (loc' := [.ref 68, .int x1, .int x2, .int x3, .int x4, .int x5, .int x6, .int x7, u8]) (st' := [.int (40 * x2), .ref 70, .int 0, .ref 84]) (by decide +kernel) (fun _ => rfl)).trans ?_
      refine (R_pure0 (ins := .iload 4) (len := 2) (loc' := [.ref 68, .int x1, .int x2, .int x3, .int x4, .int x5, .int x6, .int x7, u8]) (st' := [.int x4, .int (40 * x2), .ref 70, .int 0, .ref 84]) (by decide +kernel) (fun _ => rfl)).trans ?_
      refine (R_static (i := 184) (f := 188) (kd := 2) (na := 5) (ml := 6) (As := [.ref 84, .int 0, .ref 70, .int (40 * x2), .int x4]) (rest := []) (by decide +kernel) (by decide +kernel) (by decide) (by decide +kernel) rfl rfl (by decide +kernel) (Nat.le_of_ble_eq_true rfl)).trans ?_
      rfl
theorem s209_67g {u8 : Value} {L : Nat} {mi : Nat → Nat → Int32} {ml : Nat → Nat → Int64} {d : Nat} {Q : Option Value → xM → Prop} {x1 x2 x3 x4 x5 x6 x7 y : Int32} : X 209 67 [.ref 68, .int x1, .int x2, .int x3, .int x4, .int x5, .int x6, .int x7, u8] [.int y] (SH L, mi, ml, MR) (d + 1) Q =
    if (y < x5) then (Xm 188 [.ref 83, .int 0, .ref 84, .int 0, .int 5] (SH L, mi, ml, MR) d (fun v μ' => X 209 94 [.ref 68, .int x1, .int x2, .int x3, .int x4, .int y, .int x6, .int x7, .int y] (v.toList ++ []) μ' (d + 1) Q)) else (X 209 51 [.ref 68, .int x1, .int x2, .int x3, .int x4, .int x5, .int x6, .int (x7 + 1), .int y] [] (SH L, mi, ml, MR) (d + 1) Q) := by
  refine (R_pure0 (ins := .istore 8) (len := 2) (loc' := [.ref 68, .int x1, .int x2, .int x3, .int x4, .int x5, .int x6, .int x7, .int y]) (st' := []) (by decide +kernel) (fun _ => rfl)).trans ?_
  refine (R_pure0 (ins := .iload 8) (len := 2) (loc' := [.ref 68, .int x1, .int x2, .int x3, .int x4, .int x5, .int x6, .int x7, .int y]) (st' := [.int y]) (by decide +kernel) (fun _ => rfl)).trans ?_
  refine (R_pure0 (ins := .iload 5) (len := 2) (loc' := [.ref 68, .int x1, .int x2, .int x3, .int x4, .int x5, .int x6, .int x7, .int y]) (st' := [.int x5, .int y]) (by decide +kernel) (fun _ => rfl)).trans ?_
  refine (R_icmp_ge (off := 21) (t := 94) (by decide +kernel) (by decide +kernel)).trans (ite_congr rfl (fun c0 => ?_) (fun c0 => ?_))
  · refine (R_pure0 (ins := .iload 8) (len := 2) (loc' := [.ref 68, .int x1, .int x2, .int x3, .int x4, .int x5, .int x6, .int x7, .int y]) (st' := [.int y]) (by decide +kernel) (fun _ => rfl)).trans ?_
    refine (R_pure0 (ins := .istore 5) (len := 2) (loc' := [.ref 68, .int x1, .int x2, .int x3, .int x4, .int y, .int x6, .int x7, .int y]) (st' := []) (by decide +kernel) (fun _ => rfl)).trans ?_
    refine (R_pure0 (ins := .aload_n 0) (len := 1) (loc' := [.ref 68, .int x1, .int x2, .int x3, .int x4, .int y, .int x6, .int x7, .int y]) (st' := [.ref 68]) (by decide +kernel) (fun _ => rfl)).trans ?_
    refine (R_gr (i := 57) (ci := 10) (k := 22) (n := 33) (b := 83) (by decide +kernel) (by decide +kernel) (by decide) rfl (SH_ref (by decide +kernel))).trans ?_
    refine (R_iconst (n := 0) (v := 0) (by decide +kernel) (by decide +kernel)).trans ?_
    refine (R_pure0 (ins := .aload_n 0) (len := 1) (loc' := [.ref 68, .int x1, .int x2, .int x3, .int x4, .int y, .int x6, .int x7, .int y]) (st' := [.ref 68, .int 0, .ref 83]) (by decide +kernel) (fun _ => rfl)).trans ?_
    refine (R_gr (i := 60) (ci := 10) (k := 23) (n := 33) (b := 84) (by decide +kernel) (by decide +kernel) (by decide) rfl (SH_ref (by decide +kernel))).trans ?_
    refine (R_iconst (n := 0) (v := 0) (by decide +kernel) (by decide +kernel)).trans ?_
    refine (R_iconst (n := 5) (v := 5) (by decide +kernel) (by decide +kernel)).trans ?_
    refine (R_static (i := 184) (f := 188) (kd := 2) (na := 5) (ml := 6) (As := [.ref 83, .int 0, .ref 84, .int 0, .int 5]) (rest := []) (by decide +kernel) (by decide +kernel) (by decide) (by decide +kernel) rfl rfl (by decide +kernel) (Nat.le_of_ble_eq_true rfl)).trans ?_
    rfl
  · refine (R_iinc (k := 7) (n := 1) (x := x7) (v := (x7 + 1)) (loc' := [.ref 68, .int x1, .int x2, .int x3, .int x4, .int x5, .int x6, .int (x7 + 1), .int y]) (by decide +kernel) rfl rfl rfl).trans ?_
    refine (R_goto (off := (-46)) (t := 51) (by decide +kernel) (by decide +kernel)).trans ?_
    rfl
theorem s209_94g {u8 : Value} {L : Nat} {mi : Nat → Nat → Int32} {ml : Nat → Nat → Int64} {d : Nat} {Q : Option Value → xM → Prop} {x1 x2 x3 x4 x5 x6 x7 : Int32} : X 209 94 [.ref 68, .int x1, .int x2, .int x3, .int x4, .int x5, .int x6, .int x7, u8] [] (SH L, mi, ml, MR) d Q =
    X 209 51 [.ref 68, .int x1, .int x2, .int x3, .int x4, .int x5, .int x6, .int (x7 + 1), u8] [] (SH L, mi, ml, MR) d Q := by
  refine (R_iinc (k := 7) (n := 1) (x := x7) (v := (x7 + 1)) (loc' := [.ref 68, .int x1, .int x2, .int x3, .int x4, .int x5, .int x6, .int (x7 + 1), u8]) (by decide +kernel) rfl rfl rfl).trans ?_
  refine (R_goto (off := (-46)) (t := 51) (by decide +kernel) (by decide +kernel)).trans ?_
  rfl
theorem s209_128g {u8 : Value} {L : Nat} {mi : Nat → Nat → Int32} {ml : Nat → Nat → Int64} {d : Nat} {Q : Option Value → xM → Prop} {x1 x2 x3 x4 x5 x6 x7 : Int32} (h1 : xin x2 6 = true) : X 209 128 [.ref 68, .int x1, .int x2, .int x3, .int x4, .int x5, .int x6, .int x7, u8] [] (SH L, mi, ml, MR) d Q =
    Q (some (.int x5)) (SH L, (xw mi 69 x2.toNatClampNeg x4), ml, MR) := by
  refine (R_pure0 (ins := .aload_n 0) (len := 1) (loc' := [.ref 68, .int x1, .int x2, .int x3, .int x4, .int x5, .int x6, .int x7, u8]) (st' := [.ref 68]) (by decide +kernel) (fun _ => rfl)).trans ?_
  refine (R_gr (i := 7) (ci := 10) (k := 0) (n := 33) (b := 69) (by decide +kernel) (by decide +kernel) (by decide) rfl (SH_ref (by decide +kernel))).trans ?_
  refine (R_pure0 (ins := .iload_n 2) (len := 1) (loc' := [.ref 68, .int x1, .int x2, .int x3, .int x4, .int x5, .int x6, .int x7, u8]) (st' := [.int x2, .ref 69]) (by decide +kernel) (fun _ => rfl)).trans ?_
  refine (R_pure0 (ins := .iload 4) (len := 2) (loc' := [.ref 68, .int x1, .int x2, .int x3, .int x4, .int x5, .int x6, .int x7, u8]) (st' := [.int x4, .int x2, .ref 69]) (by decide +kernel) (fun _ => rfl)).trans ?_
  refine (R_iastore (n := 6) (by decide +kernel) rfl (h1)).trans ?_
  refine (R_pure0 (ins := .iload 5) (len := 2) (loc' := [.ref 68, .int x1, .int x2, .int x3, .int x4, .int x5, .int x6, .int x7, u8]) (st' := [.int x5]) (by decide +kernel) (fun _ => rfl)).trans ?_
  exact R_ireturn (by decide +kernel) (by decide +kernel)
