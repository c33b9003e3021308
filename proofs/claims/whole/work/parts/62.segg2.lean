/-! segments with dead locals left open -/
theorem s6_2g {u3 : Value} {L : Nat} {mi : Nat → Nat → Int32} {ml : Nat → Nat → Int64} {d : Nat} {Q : Option Value → xM → Prop} {x2 : Int32} {r1 : Nat} {n_r1 : Nat} (hS_r1 : isStrip L r1 n_r1) (h1 : (x2 < 6) → xin x2 6 = true) : X 6 2 [.ref 62, .ref r1, .int x2, u3] [] (SH L, mi, ml, MR) d Q =
    if (x2 < 6) then (X 6 20 [.ref 62, .ref r1, .int x2, .int 0] [] (SH L, (xw mi 63 x2.toNatClampNeg 0), ml, MR) d Q) else (Q none (SH L, mi, ml, MR)) := by
  refine (R_pure0 (ins := .iload_n 2) (len := 1) (loc' := [.ref 62, .ref r1, .int x2, u3]) (st' := [.int x2]) (by decide +kernel) (fun _ => rfl)).trans ?_
  refine (R_pure0 (ins := .aload_n 0) (len := 1) (loc' := [.ref 62, .ref r1, .int x2, u3]) (st' := [.ref 62, .int x2]) (by decide +kernel) (fun _ => rfl)).trans ?_
  refine (R_gr (i := 9) (ci := 1) (k := 0) (n := 2) (b := 63) (by decide +kernel) (by decide +kernel) (by decide) rfl (SH_ref (by decide +kernel))).trans ?_
  refine (R_arraylength (kd := 100) (n := 6) (by decide +kernel) rfl (by decide)).trans ?_
  show X 6 8 [.ref 62, .ref r1, .int x2, u3] [.int 6, .int x2] (SH L, mi, ml, MR) _ _ = _
  refine (R_icmp_ge (off := 55) (t := 63) (by decide +kernel) (by decide +kernel)).trans (ite_congr rfl (fun c0 => ?_) (fun c0 => ?_))
  · refine (R_pure0 (ins := .aload_n 0) (len := 1) (loc' := [.ref 62, .ref r1, .int x2, u3]) (st' := [.ref 62]) (by decide +kernel) (fun _ => rfl)).trans ?_
    refine (R_gr (i := 9) (ci := 1) (k := 0) (n := 2) (b := 63) (by decide +kernel) (by decide +kernel) (by decide) rfl (SH_ref (by decide +kernel))).trans ?_
    refine (R_pure0 (ins := .iload_n 2) (len := 1) (loc' := [.ref 62, .ref r1, .int x2, u3]) (st' := [.int x2, .ref 63]) (by decide +kernel) (fun _ => rfl)).trans ?_
    refine (R_iconst (n := 0) (v := 0) (by decide +kernel) (by decide +kernel)).trans ?_
    refine (R_iastore (n := 6) (by decide +kernel) rfl (h1 c0)).trans ?_
    refine (R_iconst (n := 0) (v := 0) (by decide +kernel) (by decide +kernel)).trans ?_
    refine (R_pure0 (ins := .istore_n 3) (len := 1) (loc' := [.ref 62, .ref r1, .int x2, .int 0]) (st' := []) (by decide +kernel) (fun _ => rfl)).trans ?_
    rfl
  · exact R_return (by decide +kernel) (by decide +kernel)
theorem s11_4g {u4 : Value} {L : Nat} {mi : Nat → Nat → Int32} {ml : Nat → Nat → Int64} {d : Nat} {Q : Option Value → xM → Prop} {x1 x2 x3 : Int32} : X 11 4 [.ref 62, .int x1, .int x2, .int x3, u4] [] (SH L, mi, ml, MR) d Q =
    if (x3 < 6) then (X 11 13 [.ref 62, .int x1, .int x2, .int x3, .int 0] [] (SH L, mi, ml, MR) d Q) else (Q (some (.int x2)) (SH L, mi, ml, MR)) := by
  refine (R_pure0 (ins := .iload_n 3) (len := 1) (loc' := [.ref 62, .int x1, .int x2, .int x3, u4]) (st' := [.int x3]) (by decide +kernel) (fun _ => rfl)).trans ?_
  refine (R_bipush (n := 6) (v := 6) (by decide +kernel) (by decide +kernel)).trans ?_
  refine (R_icmp_ge (off := 51) (t := 58) (by decide +kernel) (by decide +kernel)).trans (ite_congr rfl (fun c0 => ?_) (fun c0 => ?_))
  · refine (R_iconst (n := 0) (v := 0) (by decide +kernel) (by decide +kernel)).trans ?_
    refine (R_pure0 (ins := .istore 4) (len := 2) (loc' := [.ref 62, .int x1, .int x2, .int x3, .int 0]) (st' := []) (by decide +kernel) (fun _ => rfl)).trans ?_
    rfl
  · refine (R_pure0 (ins := .iload_n 2) (len := 1) (loc' := [.ref 62, .int x1, .int x2, .int x3, u4]) (st' := [.int x2]) (by decide +kernel) (fun _ => rfl)).trans ?_
    exact R_ireturn (by decide +kernel) (by decide +kernel)
theorem s12_28g {u4 u5 : Value} {L : Nat} {mi : Nat → Nat → Int32} {ml : Nat → Nat → Int64} {d : Nat} {Q : Option Value → xM → Prop} {x1 x2 x3 : Int32} : X 12 28 [.ref 62, .int x1, .int x2, .int x3, u4, u5] [] (SH L, mi, ml, MR) d Q =
    if (x3 < 6) then (X 12 37 [.ref 62, .int x1, .int x2, .int x3, .int 0, u5] [] (SH L, mi, ml, MR) d Q) else (Q (some (.int x2)) (SH L, mi, ml, MR)) := by
  refine (R_pure0 (ins := .iload_n 3) (len := 1) (loc' := [.ref 62, .int x1, .int x2, .int x3, u4, u5]) (st' := [.int x3]) (by decide +kernel) (fun _ => rfl)).trans ?_
  refine (R_bipush (n := 6) (v := 6) (by decide +kernel) (by decide +kernel)).trans ?_
  refine (R_icmp_ge (off := 82) (t := 113) (by decide +kernel) (by decide +kernel)).trans (ite_congr rfl (fun c0 => ?_) (fun c0 => ?_))
  · refine (R_iconst (n := 0) (v := 0) (by decide +kernel) (by decide +kernel)).trans ?_
    refine (R_pure0 (ins := .istore 4) (len := 2) (loc' := [.ref 62, .int x1, .int x2, .int x3, .int 0, u5]) (st' := []) (by decide +kernel) (fun _ => rfl)).trans ?_
    rfl
  · refine (R_pure0 (ins := .iload_n 2) (len := 1) (loc' := [.ref 62, .int x1, .int x2, .int x3, u4, u5]) (st' := [.int x2]) (by decide +kernel) (fun _ => rfl)).trans ?_
    exact R_ireturn (by decide +kernel) (by decide +kernel)
theorem s12_37g {u5 : Value} {L : Nat} {mi : Nat → Nat → Int32} {ml : Nat → Nat → Int64} {d : Nat} {Q : Option Value → xM → Prop} {x1 x2 x3 x4 : Int32} : X 12 37 [.ref 62, .int x1, .int x2, .int x3, .int x4, u5] [] (SH L, mi, ml, MR) (d + 1) Q =
    if (x4 < 10) then (Xm 48 [.int x3, .int x4, .int x1] (SH L, mi, ml, MR) d (fun v μ' => X 12 51 [.ref 62, .int x1, .int x2, .int x3, .int x4, u5] (v.toList ++ []) μ' (d + 1) Q)) else (X 12 28 [.ref 62, .int x1, .int x2, .int (x3 + 1), .int x4, u5] [] (SH L, mi, ml, MR) (d + 1) Q) := by
  refine (R_pure0 (ins := .iload 4) (len := 2) (loc' := [.ref 62, .int x1, .int x2, .int x3, .int x4, u5]) (st' := [.int x4]) (by decide +kernel) (fun _ => rfl)).trans ?_
  refine (R_bipush (n := 10) (v := 10) (by decide +kernel) (by decide +kernel)).trans ?_
  refine (R_icmp_ge (off := 66) (t := 107) (by decide +kernel) (by decide +kernel)).trans (ite_congr rfl (fun c0 => ?_) (fun c0 => ?_))
  · refine (R_pure0 (ins := .iload_n 3) (len := 1) (loc' := [.ref 62, .int x1, .int x2, .int x3, .int x4, u5]) (st' := [.int x3]) (by decide +kernel) (fun _ => rfl)).trans ?_
    refine (R_pure0 (ins := .iload 4) (len := 2) (loc' := [.ref 62, .int x1, .int x2, .int x3, .int x4, u5]) (st' := [.int x4, .int x3]) (by decide +kernel) (fun _ => rfl)).trans ?_
    refine (R_pure0 (ins := .iload_n 1) (len := 1) (loc' := [.ref 62, .int x1, .int x2, .int x3, .int x4, u5]) (st' := [.int x1, .int x4, .int x3]) (by decide +kernel) (fun _ => rfl)).trans ?_
    refine (R_static (i := 32) (f := 48) (kd := 2) (na := 3) (ml := 3) (As := [.int x3, .int x4, .int x1]) (rest := []) (by decide +kernel) (by decide +kernel) (by decide) (by decide +kernel) rfl rfl (by decide +kernel) (Nat.le_of_ble_eq_true rfl)).trans ?_
    rfl
  · refine (R_iinc (k := 3) (n := 1) (x := x3) (v := (x3 + 1)) (loc' := [.ref 62, .int x1, .int x2, .int (x3 + 1), .int x4, u5]) (by decide +kernel) rfl rfl rfl).trans ?_
    refine (R_goto (off := (-82)) (t := 28) (by decide +kernel) (by decide +kernel)).trans ?_
    rfl
theorem s12_51g {u5 : Value} {L : Nat} {mi : Nat → Nat → Int32} {ml : Nat → Nat → Int64} {d : Nat} {Q : Option Value → xM → Prop} {x1 x2 x3 x4 y : Int32} : X 12 51 [.ref 62, .int x1, .int x2, .int x3, .int x4, u5] [.int y] (SH L, mi, ml, MR) (d + 1) Q =
    Xm 9 [.ref 62, .int x3, .int x4] (SH L, mi, ml, MR) d (fun v μ' => X 12 60 [.ref 62, .int x1, .int x2, .int x3, .int x4, .int y] (v.toList ++ []) μ' (d + 1) Q) := by
  refine (R_pure0 (ins := .istore 5) (len := 2) (loc' := [.ref 62, .int x1, .int x2, .int x3, .int x4, .int y]) (st' := []) (by decide +kernel) (fun _ => rfl)).trans ?_
  refine (R_pure0 (ins := .aload_n 0) (len := 1) (loc' := [.ref 62, .int x1, .int x2, .int x3, .int x4, .int y]) (st' := [.ref 62]) (by decide +kernel) (fun _ => rfl)).trans ?_
  refine (R_pure0 (ins := .iload_n 3) (len := 1) (loc' := [.ref 62, .int x1, .int x2, .int x3, .int x4, .int y]) (st' := [.int x3, .ref 62]) (by decide +kernel) (fun _ => rfl)).trans ?_
  refine (R_pure0 (ins := .iload 4) (len := 2) (loc' := [.ref 62, .int x1, .int x2, .int x3, .int x4, .int y]) (st' := [.int x4, .int x3, .ref 62]) (by decide +kernel) (fun _ => rfl)).trans ?_
  refine (R_virt (i := 41) (f := 9) (kd := 0) (na := 2) (ml := 3) (ci := 1) (n := 2) (b := 62) (As := [.int x3, .int x4]) (rest := []) (by decide +kernel) (by decide +kernel) (by decide) (by decide +kernel) rfl (by decide +kernel) rfl rfl (by decide +kernel) (Nat.le_of_ble_eq_true rfl)).trans ?_
  rfl
theorem s13_7g {u4 : Value} {L : Nat} {mi : Nat → Nat → Int32} {ml : Nat → Nat → Int64} {d : Nat} {Q : Option Value → xM → Prop} {x1 x2 x3 : Int32} : X 13 7 [.ref 62, .int x1, .int x2, .int x3, u4] [] (SH L, mi, ml, MR) (d + 1) Q =
    if (x3 < 9) then (Xm 12 [.ref 62, .int x3] (SH L, mi, ml, MR) d (fun v μ' => X 13 18 [.ref 62, .int x1, .int x2, .int x3, u4] (v.toList ++ []) μ' (d + 1) Q)) else (Q (some (.int x1)) (SH L, mi, ml, MR)) := by
  refine (R_pure0 (ins := .iload_n 3) (len := 1) (loc' := [.ref 62, .int x1, .int x2, .int x3, u4]) (st' := [.int x3]) (by decide +kernel) (fun _ => rfl)).trans ?_
  refine (R_bipush (n := 9) (v := 9) (by decide +kernel) (by decide +kernel)).trans ?_
  refine (R_icmp_ge (off := 38) (t := 48) (by decide +kernel) (by decide +kernel)).trans (ite_congr rfl (fun c0 => ?_) (fun c0 => ?_))
  · refine (R_pure0 (ins := .aload_n 0) (len := 1) (loc' := [.ref 62, .int x1, .int x2, .int x3, u4]) (st' := [.ref 62]) (by decide +kernel) (fun _ => rfl)).trans ?_
    refine (R_pure0 (ins := .iload_n 3) (len := 1) (loc' := [.ref 62, .int x1, .int x2, .int x3, u4]) (st' := [.int x3, .ref 62]) (by decide +kernel) (fun _ => rfl)).trans ?_
    refine (R_virt (i := 51) (f := 12) (kd := 0) (na := 1) (ml := 6) (ci := 1) (n := 2) (b := 62) (As := [.int x3]) (rest := []) (by decide +kernel) (by decide +kernel) (by decide) (by decide +kernel) rfl (by decide +kernel) rfl rfl (by decide +kernel) (Nat.le_of_ble_eq_true rfl)).trans ?_
    rfl
  · refine (R_pure0 (ins := .iload_n 1) (len := 1) (loc' := [.ref 62, .int x1, .int x2, .int x3, u4]) (st' := [.int x1]) (by decide +kernel) (fun _ => rfl)).trans ?_
    exact R_ireturn (by decide +kernel) (by decide +kernel)
theorem s13_18g {u4 : Value} {L : Nat} {mi : Nat → Nat → Int32} {ml : Nat → Nat → Int64} {d : Nat} {Q : Option Value → xM → Prop} {x1 x2 x3 y : Int32} : X 13 18 [.ref 62, .int x1, .int x2, .int x3, u4] [.int y] (SH L, mi, ml, MR) d Q =
    if ((0 : Int32) < y) then (if (x1 = (-9)) then (X 13 7 [.ref 62, .int x3, .int y, .int (x3 + 1), .int y] [] (SH L, mi, ml, MR) d Q) else (if (y < x2) then (X 13 7 [.ref 62, .int x3, .int y, .int (x3 + 1), .int y] [] (SH L, mi, ml, MR) d Q) else (X 13 7 [.ref 62, .int x1, .int x2, .int (x3 + 1), .int y] [] (SH L, mi, ml, MR) d Q))) else (X 13 7 [.ref 62, .int x1, .int x2, .int (x3 + 1), .int y] [] (SH L, mi, ml, MR) d Q) := by
  refine (R_pure0 (ins := .istore 4) (len := 2) (loc' := [.ref 62, .int x1, .int x2, .int x3, .int y]) (st' := []) (by decide +kernel) (fun _ => rfl)).trans ?_
  refine (R_pure0 (ins := .iload 4) (len := 2) (loc' := [.ref 62, .int x1, .int x2, .int x3, .int y]) (st' := [.int y]) (by decide +kernel) (fun _ => rfl)).trans ?_
  refine (R_if_le (off := 20) (t := 42) (by decide +kernel) (by decide +kernel)).trans (ite_congr rfl (fun c0 => ?_) (fun c0 => ?_))
  · refine (R_pure0 (ins := .iload_n 1) (len := 1) (loc' := [.ref 62, .int x1, .int x2, .int x3, .int y]) (st' := [.int x1]) (by decide +kernel) (fun _ => rfl)).trans ?_
    refine (R_bipush (n := (-9)) (v := (-9)) (by decide +kernel) (by decide +kernel)).trans ?_
    refine (R_icmp_eq (off := 9) (t := 37) (by decide +kernel) (by decide +kernel)).trans (ite_congr rfl (fun c1 => ?_) (fun c1 => ?_))
    · refine (R_pure0 (ins := .iload_n 3) (len := 1) (loc' := [.ref 62, .int x1, .int x2, .int x3, .int y]) (st' := [.int x3]) (by decide +kernel) (fun _ => rfl)).trans ?_
      refine (R_pure0 (ins := .istore_n 1) (len := 1) (loc' := [.ref 62, .int x3, .int x2, .int x3, .int y]) (st' := []) (by decide +kernel) (fun _ => rfl)).trans ?_
      refine (R_pure0 (ins := .iload 4) (len := 2) (loc' := [.ref 62, .int x3, .int x2, .int x3, .int y]) (st' := [.int y]) (by decide +kernel) (fun _ => rfl)).trans ?_
      refine (R_pure0 (ins := .istore_n 2) (len := 1) (loc' := [.ref 62, .int x3, .int y, .int x3, .int y]) (st' := []) (by decide +kernel) (fun _ => rfl)).trans ?_
      refine (R_iinc (k := 3) (n := 1) (x := x3) (v := (x3 + 1)) (loc' := [.ref 62, .int x3, .int y, .int (x3 + 1), .int y]) (by decide +kernel) rfl rfl rfl).trans ?_
      refine (R_goto (off := (-38)) (t := 7) (by decide +kernel) (by decide +kernel)).trans ?_
      rfl
    · refine (R_pure0 (ins := .iload 4) (len := 2) (loc' := [.ref 62, .int x1, .int x2, .int x3, .int y]) (st' := [.int y]) (by decide +kernel) (fun _ => rfl)).trans ?_
      refine (R_pure0 (ins := .iload_n 2) (len := 1) (loc' := [.ref 62, .int x1, .int x2, .int x3, .int y]) (st' := [.int x2, .int y]) (by decide +kernel) (fun _ => rfl)).trans ?_
      refine (R_icmp_ge (off := 8) (t := 42) (by decide +kernel) (by decide +kernel)).trans (ite_congr rfl (fun c2 => ?_) (fun c2 => ?_))
      · refine (R_pure0 (ins := .iload_n 3) (len := 1) (loc' := [.ref 62, .int x1, .int x2, .int x3, .int y]) (st' := [.int x3]) (by decide +kernel) (fun _ => rfl)).trans ?_
        refine (R_pure0 (ins := .istore_n 1) (len := 1) (loc' := [.ref 62, .int x3, .int x2, .int x3, .int y]) (st' := []) (by decide +kernel) (fun _ => rfl)).trans ?_
        refine (R_pure0 (ins := .iload 4) (len := 2) (loc' := [.ref 62, .int x3, .int x2, .int x3, .int y]) (st' := [.int y]) (by decide +kernel) (fun _ => rfl)).trans ?_
        refine (R_pure0 (ins := .istore_n 2) (len := 1) (loc' := [.ref 62, .int x3, .int y, .int x3, .int y]) (st' := []) (by decide +kernel) (fun _ => rfl)).trans ?_
        refine (R_iinc (k := 3) (n := 1) (x := x3) (v := (x3 + 1)) (loc' := [.ref 62, .int x3, .int y, .int (x3 + 1), .int y]) (by decide +kernel) rfl rfl rfl).trans ?_
        refine (R_goto (off := (-38)) (t := 7) (by decide +kernel) (by decide +kernel)).trans ?_
        rfl
      · refine (R_iinc (k := 3) (n := 1) (x := x3) (v := (x3 + 1)) (loc' := [.ref 62, .int x1, .int x2, .int (x3 + 1), .int y]) (by decide +kernel) rfl rfl rfl).trans ?_
        refine (R_goto (off := (-38)) (t := 7) (by decide +kernel) (by decide +kernel)).trans ?_
        rfl
  · refine (R_iinc (k := 3) (n := 1) (x := x3) (v := (x3 + 1)) (loc' := [.ref 62, .int x1, .int x2, .int (x3 + 1), .int y]) (by decide +kernel) rfl rfl rfl).trans ?_
    refine (R_goto (off := (-38)) (t := 7) (by decide +kernel) (by decide +kernel)).trans ?_
    rfl
theorem s219_23g {u4 : Value} {L : Nat} {mi : Nat → Nat → Int32} {ml : Nat → Nat → Int64} {d : Nat} {Q : Option Value → xM → Prop} {x1 x2 x3 : Int32} : X 219 23 [.ref 68, .int x1, .int x2, .int x3, u4] [] (SH L, mi, ml, MR) d Q =
    if (x3 < 6) then (X 219 32 [.ref 68, .int x1, .int x2, .int x3, .int 0] [] (SH L, mi, ml, MR) d Q) else (X 219 87 [.ref 68, .int x1, .int x2, .int 0, .int 0] [] (SH L, mi, ml, MR) d Q) := by
  refine (R_pure0 (ins := .iload_n 3) (len := 1) (loc' := [.ref 68, .int x1, .int x2, .int x3, u4]) (st' := [.int x3]) (by decide +kernel) (fun _ => rfl)).trans ?_
  refine (R_bipush (n := 6) (v := 6) (by decide +kernel) (by decide +kernel)).trans ?_
  refine (R_icmp_ge (off := 56) (t := 82) (by decide +kernel) (by decide +kernel)).trans (ite_congr rfl (fun c0 => ?_) (fun c0 => ?_))
  · refine (R_iconst (n := 0) (v := 0) (by decide +kernel) (by decide +kernel)).trans ?_
    refine (R_pure0 (ins := .istore 4) (len := 2) (loc' := [.ref 68, .int x1, .int x2, .int x3, .int 0]) (st' := []) (by decide +kernel) (fun _ => rfl)).trans ?_
    rfl
  · refine (R_iconst (n := 0) (v := 0) (by decide +kernel) (by decide +kernel)).trans ?_
    refine (R_pure0 (ins := .istore_n 3) (len := 1) (loc' := [.ref 68, .int x1, .int x2, .int 0, u4]) (st' := []) (by decide +kernel) (fun _ => rfl)).trans ?_
    refine (R_iconst (n := 0) (v := 0) (by decide +kernel) (by decide +kernel)).trans ?_
    refine (R_pure0 (ins := .istore 4) (len := 2) (loc' := [.ref 68, .int x1, .int x2, .int 0, .int 0]) (st' := []) (by decide +kernel) (fun _ => rfl)).trans ?_
    rfl
theorem s221_44g {u7 : Value} {L : Nat} {mi : Nat → Nat → Int32} {ml : Nat → Nat → Int64} {d : Nat} {Q : Option Value → xM → Prop} {x1 x2 x3 x4 x5 x6 : Int32} : X 221 44 [.ref 68, .int x1, .int x2, .int x3, .int x4, .int x5, .int x6, u7] [] (SH L, mi, ml, MR) (d + 1) Q =
    if (x6 < 9) then (Xm 219 [.ref 68, .int x6, .int x2] (SH L, mi, ml, MR) d (fun v μ' => X 221 58 [.ref 68, .int x1, .int x2, .int x3, .int x4, .int x5, .int x6, u7] (v.toList ++ []) μ' (d + 1) Q)) else (Xm 154 [.ref 68, .int x4, .int x5] (SH L, mi, ml, MR) d (fun v μ' => X 221 114 [.ref 68, .int x1, .int x2, .int x3, .int x4, .int x5, .int x6, u7] (v.toList ++ []) μ' (d + 1) Q)) := by
  refine (R_pure0 (ins := .iload 6) (len := 2) (loc' := [.ref 68, .int x1, .int x2, .int x3, .int x4, .int x5, .int x6, u7]) (st' := [.int x6]) (by decide +kernel) (fun _ => rfl)).trans ?_
  refine (R_bipush (n := 9) (v := 9) (by decide +kernel) (by decide +kernel)).trans ?_
  refine (R_icmp_ge (off := 58) (t := 106) (by decide +kernel) (by decide +kernel)).trans (ite_congr rfl (fun c0 => ?_) (fun c0 => ?_))
  · refine (R_pure0 (ins := .aload_n 0) (len := 1) (loc' := [.ref 68, .int x1, .int x2, .int x3, .int x4, .int x5, .int x6, u7]) (st' := [.ref 68]) (by decide +kernel) (fun _ => rfl)).trans ?_
    refine (R_pure0 (ins := .iload 6) (len := 2) (loc' := [.ref 68, .int x1, .int x2, .int x3, .int x4, .int x5, .int x6, u7]) (st' := [.int x6, .ref 68]) (by decide +kernel) (fun _ => rfl)).trans ?_
    refine (R_pure0 (ins := .iload_n 2) (len := 1) (loc' := [.ref 68, .int x1, .int x2, .int x3, .int x4, .int x5, .int x6, u7]) (st' := [.int x2, .int x6, .ref 68]) (by decide +kernel) (fun _ => rfl)).trans ?_
    refine (R_virt (i := 263) (f := 219) (kd := 0) (na := 2) (ml := 5) (ci := 10) (n := 33) (b := 68) (As := [.int x6, .int x2]) (rest := []) (by decide +kernel) (by decide +kernel) (by decide) (by decide +kernel) rfl (by decide +kernel) rfl rfl (by decide +kernel) (Nat.le_of_ble_eq_true rfl)).trans ?_
    rfl
  · refine (R_pure0 (ins := .aload_n 0) (len := 1) (loc' := [.ref 68, .int x1, .int x2, .int x3, .int x4, .int x5, .int x6, u7]) (st' := [.ref 68]) (by decide +kernel) (fun _ => rfl)).trans ?_
    refine (R_pure0 (ins := .iload 4) (len := 2) (loc' := [.ref 68, .int x1, .int x2, .int x3, .int x4, .int x5, .int x6, u7]) (st' := [.int x4, .ref 68]) (by decide +kernel) (fun _ => rfl)).trans ?_
    refine (R_pure0 (ins := .iload 5) (len := 2) (loc' := [.ref 68, .int x1, .int x2, .int x3, .int x4, .int x5, .int x6, u7]) (st' := [.int x5, .int x4, .ref 68]) (by decide +kernel) (fun _ => rfl)).trans ?_
    refine (R_virt (i := 215) (f := 154) (kd := 0) (na := 2) (ml := 3) (ci := 10) (n := 33) (b := 68) (As := [.int x4, .int x5]) (rest := []) (by decide +kernel) (by decide +kernel) (by decide) (by decide +kernel) rfl (by decide +kernel) rfl rfl (by decide +kernel) (Nat.le_of_ble_eq_true rfl)).trans ?_
    rfl
theorem s221_58g {u7 : Value} {L : Nat} {mi : Nat → Nat → Int32} {ml : Nat → Nat → Int64} {d : Nat} {Q : Option Value → xM → Prop} {x1 x2 x3 x4 x5 x6 y : Int32} : X 221 58 [.ref 68, .int x1, .int x2, .int x3, .int x4, .int x5, .int x6, u7] [.int y] (SH L, mi, ml, MR) d Q =
    if (y = 0) then (Q (some (.int (-9))) (SH L, mi, ml, MR)) else (if (y < x5) then (X 221 44 [.ref 68, .int x1, .int x2, .int x3, .int x6, .int y, .int (x6 + 1), .int y] [] (SH L, mi, ml, MR) d Q) else (X 221 44 [.ref 68, .int x1, .int x2, .int x3, .int x4, .int x5, .int (x6 + 1), .int y] [] (SH L, mi, ml, MR) d Q)) := by
  refine (R_pure0 (ins := .istore 7) (len := 2) (loc' := [.ref 68, .int x1, .int x2, .int x3, .int x4, .int x5, .int x6, .int y]) (st' := []) (by decide +kernel) (fun _ => rfl)).trans ?_
  refine (R_pure0 (ins := .iload 7) (len := 2) (loc' := [.ref 68, .int x1, .int x2, .int x3, .int x4, .int x5, .int x6, .int y]) (st' := [.int y]) (by decide +kernel) (fun _ => rfl)).trans ?_
  refine (R_if_ne (off := 6) (t := 68) (by decide +kernel) (by decide +kernel)).trans (ite_congr rfl (fun c0 => ?_) (fun c0 => ?_))
  · refine (R_bipush (n := (-9)) (v := (-9)) (by decide +kernel) (by decide +kernel)).trans ?_
    exact R_ireturn (by decide +kernel) (by decide +kernel)
  · refine (R_pure0 (ins := .iload 7) (len := 2) (loc' := [.ref 68, .int x1, .int x2, .int x3, .int x4, .int x5, .int x6, .int y]) (st' := [.int y]) (by decide +kernel) (fun _ => rfl)).trans ?_
    refine (R_pure0 (ins := .iload 5) (len := 2) (loc' := [.ref 68, .int x1, .int x2, .int x3, .int x4, .int x5, .int x6, .int y]) (st' := [.int x5, .int y]) (by decide +kernel) (fun _ => rfl)).trans ?_
    refine (R_icmp_ge (off := 8) (t := 80) (by decide +kernel) (by decide +kernel)).trans (ite_congr rfl (fun c1 => ?_) (fun c1 => ?_))
    · refine (R_pure0 (ins := .iload 6) (len := 2) (loc' := [.ref 68, .int x1, .int x2, .int x3, .int x4, .int x5, .int x6, .int y]) (st' := [.int x6]) (by decide +kernel) (fun _ => rfl)).trans ?_
      refine (R_goto (off := 5) (t := 82) (by decide +kernel) (by decide +kernel)).trans ?_
      refine (R_pure0 (ins := .istore 4) (len := 2) (loc' := [.ref 68, .int x1, .int x2, .int x3, .int x6, .int x5, .int x6, .int y]) (st' := []) (by decide +kernel) (fun _ => rfl)).trans ?_
      refine (R_pure0 (ins := .iload 7) (len := 2) (loc' := [.ref 68, .int x1, .int x2, .int x3, .int x6, .int x5, .int x6, .int y]) (st' := [.int y]) (by decide +kernel) (fun _ => rfl)).trans ?_
      refine (R_pure0 (ins := .iload 5) (len := 2) (loc' := [.ref 68, .int x1, .int x2, .int x3, .int x6, .int x5, .int x6, .int y]) (st' := [.int x5, .int y]) (by decide +kernel) (fun _ => rfl)).trans ?_
      refine (R_icmp_ge (off := 8) (t := 96) (by decide +kernel) (by decide +kernel)).trans ((if_pos c1).trans ?_)
      refine (R_pure0 (ins := .iload 7) (len := 2) (loc' := [.ref 68, .int x1, .int x2, .int x3, .int x6, .int x5, .int x6, .int y]) (st' := [.int y]) (by decide +kernel) (fun _ => rfl)).trans ?_
      refine (R_goto (off := 5) (t := 98) (by decide +kernel) (by decide +kernel)).trans ?_
      refine (R_pure0 (ins := .istore 5) (len := 2) (loc' := [.ref 68, .int x1, .int x2, .int x3, .int x6, .int y, .int x6, .int y]) (st' := []) (by decide +kernel) (fun _ => rfl)).trans ?_
      refine (R_iinc (k := 6) (n := 1) (x := x6) (v := (x6 + 1)) (loc' := [.ref 68, .int x1, .int x2, .int x3, .int x6, .int y, .int (x6 + 1), .int y]) (by decide +kernel) rfl rfl rfl).trans ?_
      refine (R_goto (off := (-59)) (t := 44) (by decide +kernel) (by decide +kernel)).trans ?_
      rfl
    · refine (R_pure0 (ins := .iload 4) (len := 2) (loc' := [.ref 68, .int x1, .int x2, .int x3, .int x4, .int x5, .int x6, .int y]) (st' := [.int x4]) (by decide +kernel) (fun _ => rfl)).trans ?_
      refine (R_pure0 (ins := .istore 4) (len := 2) (loc' := [.ref 68, .int x1, .int x2, .int x3, .int x4, .int x5, .int x6, .int y]) (st' := []) (by decide +kernel) (fun _ => rfl)).trans ?_
      refine (R_pure0 (ins := .iload 7) (len := 2) (loc' := [.ref 68, .int x1, .int x2, .int x3, .int x4, .int x5, .int x6, .int y]) (st' := [.int y]) (by decide +kernel) (fun _ => rfl)).trans ?_
      refine (R_pure0 (ins := .iload 5) (len := 2) (loc' := [.ref 68, .int x1, .int x2, .int x3, .int x4, .int x5, .int x6, .int y]) (st' := [.int x5, .int y]) (by decide +kernel) (fun _ => rfl)).trans ?_
      refine (R_icmp_ge (off := 8) (t := 96) (by decide +kernel) (by decide +kernel)).trans ((if_neg c1).trans ?_)
      refine (R_pure0 (ins := .iload 5) (len := 2) (loc' := [.ref 68, .int x1, .int x2, .int x3, .int x4, .int x5, .int x6, .int y]) (st' := [.int x5]) (by decide +kernel) (fun _ => rfl)).trans ?_
      refine (R_pure0 (ins := .istore 5) (len := 2) (loc' := [.ref 68, .int x1, .int x2, .int x3, .int x4, .int x5, .int x6, .int y]) (st' := []) (by decide +kernel) (fun _ => rfl)).trans ?_
      refine (R_iinc (k := 6) (n := 1) (x := x6) (v := (x6 + 1)) (loc' := [.ref 68, .int x1, .int x2, .int x3, .int x4, .int x5, .int (x6 + 1), .int y]) (by decide +kernel) rfl rfl rfl).trans ?_
      refine (R_goto (off := (-59)) (t := 44) (by decide +kernel) (by decide +kernel)).trans ?_
      rfl
theorem s221_114g {u7 : Value} {L : Nat} {mi : Nat → Nat → Int32} {ml : Nat → Nat → Int64} {d : Nat} {Q : Option Value → xM → Prop} {x1 x2 x3 x4 x5 x6 y : Int32} : X 221 114 [.ref 68, .int x1, .int x2, .int x3, .int x4, .int x5, .int x6, u7] [.int y] (SH L, mi, ml, MR) d Q =
    Q (some (.int y)) (SH L, mi, ml, MR) := by
  exact R_ireturn (by decide +kernel) (by decide +kernel)
