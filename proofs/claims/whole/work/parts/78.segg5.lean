/-! segments with dead locals left open -/
theorem s208_73g {u8 u9 : Value} {L : Nat} {mi : Nat → Nat → Int32} {ml : Nat → Nat → Int64} {d : Nat} {Q : Option Value → xM → Prop} {x1 x2 x3 x4 x5 x6 x7 : Int32} (h1 : (x7 < x4) → (x6 < 1000000) → xin x7 5 = true) (h2 : (x7 < x4) → (x6 < 1000000) → xin (mi 83 x7.toNatClampNeg) 6 = true) (h3 : (x7 < x4) → (x6 < 1000000) → xin (mi 83 x7.toNatClampNeg) 6 = true) (h4 : (x7 < x4) → (x6 < 1000000) → xin (mi 83 x7.toNatClampNeg) 6 = true) : X 208 73 [.ref 68, .int x1, .int x2, .int x3, .int x4, .int x5, .int x6, .int x7, u8, u9] [] (SH L, mi, ml, MR) (d + 1) Q =
    if (x7 < x4) then (if (x6 < 1000000) then (if ((mi 85 (mi 83 x7.toNatClampNeg).toNatClampNeg) < 9) then (Xm 180 [.ref 68, .int (mi 83 x7.toNatClampNeg), .int (mi 85 (mi 83 x7.toNatClampNeg).toNatClampNeg)] (SH L, (xw mi 85 (mi 83 x7.toNatClampNeg).toNatClampNeg ((mi 85 (mi 83 x7.toNatClampNeg).toNatClampNeg) + 1)), ml, MR) d (fun v μ' => X 208 131 [.ref 68, .int x1, .int x2, .int x3, .int x4, .int x5, .int x6, .int x7, .int (mi 83 x7.toNatClampNeg), .int (mi 85 (mi 83 x7.toNatClampNeg).toNatClampNeg)] (v.toList ++ []) μ' (d + 1) Q)) else (X 208 73 [.ref 68, .int x1, .int x2, .int x3, .int x4, .int x5, .int 1000000, .int (x7 + 1), .int (mi 83 x7.toNatClampNeg), .int (mi 85 (mi 83 x7.toNatClampNeg).toNatClampNeg)] [] (SH L, (xw mi 85 (mi 83 x7.toNatClampNeg).toNatClampNeg ((mi 85 (mi 83 x7.toNatClampNeg).toNatClampNeg) + 1)), ml, MR) (d + 1) Q)) else (Q (some (.int x6)) (SH L, mi, ml, MR))) else (Q (some (.int x6)) (SH L, mi, ml, MR)) := by
  refine (R_pure0 (ins := .iload 7) (len := 2) (loc' := [.ref 68, .int x1, .int x2, .int x3, .int x4, .int x5, .int x6, .int x7, u8, u9]) (st' := [.int x7]) (by decide +kernel) (fun _ => rfl)).trans ?_
  refine (R_pure0 (ins := .iload 4) (len := 2) (loc' := [.ref 68, .int x1, .int x2, .int x3, .int x4, .int x5, .int x6, .int x7, u8, u9]) (st' := [.int x4, .int x7]) (by decide +kernel) (fun _ => rfl)).trans ?_
  refine (R_icmp_ge (off := 102) (t := 179) (by decide +kernel) (by decide +kernel)).trans (ite_congr rfl (fun c0 => ?_) (fun c0 => ?_))
  · refine (R_pure0 (ins := .iload 6) (len := 2) (loc' := [.ref 68, .int x1, .int x2, .int x3, .int x4, .int x5, .int x6, .int x7, u8, u9]) (st' := [.int x6]) (by decide +kernel) (fun _ => rfl)).trans ?_
    refine (R_ldc (i := 218) (v := 1000000) (by decide +kernel) (by decide +kernel)).trans ?_
    refine (R_icmp_ge (off := 95) (t := 179) (by decide +kernel) (by decide +kernel)).trans (ite_congr rfl (fun c1 => ?_) (fun c1 => ?_))
    · refine (R_pure0 (ins := .aload_n 0) (len := 1) (loc' := [.ref 68, .int x1, .int x2, .int x3, .int x4, .int x5, .int x6, .int x7, u8, u9]) (st' := [.ref 68]) (by decide +kernel) (fun _ => rfl)).trans ?_
      refine (R_gr (i := 57) (ci := 10) (k := 22) (n := 33) (b := 83) (by decide +kernel) (by decide +kernel) (by decide) rfl (SH_ref (by decide +kernel))).trans ?_
      refine (R_pure0 (ins := .iload 7) (len := 2) (loc' := [.ref 68, .int x1, .int x2, .int x3, .int x4, .int x5, .int x6, .int x7, u8, u9]) (st' := [.int x7, .ref 83]) (by decide +kernel) (fun _ => rfl)).trans ?_
      refine (R_iaload (kd := 100) (n := 5) (by decide +kernel) rfl (by decide) (h1 c0 c1)).trans ?_
      refine (R_pure0 (ins := .istore 8) (len := 2) (loc' := [.ref 68, .int x1, .int x2, .int x3, .int x4, .int x5, .int x6, .int x7, .int (mi 83 x7.toNatClampNeg), u9]) (st' := []) (by decide +kernel) (fun _ => rfl)).trans ?_
      refine (R_pure0 (ins := .aload_n 0) (len := 1) (loc' := [.ref 68, .int x1, .int x2, .int x3, .int x4, .int x5, .int x6, .int x7, .int (mi 83 x7.toNatClampNeg), u9]) (st' := [.ref 68]) (by decide +kernel) (fun _ => rfl)).trans ?_
      refine (R_gr (i := 63) (ci := 10) (k := 24) (n := 33) (b := 85) (by decide +kernel) (by decide +kernel) (by decide) rfl (SH_ref (by decide +kernel))).trans ?_
      refine (R_pure0 (ins := .iload 8) (len := 2) (loc' := [.ref 68, .int x1, .int x2, .int x3, .int x4, .int x5, .int x6, .int x7, .int (mi 83 x7.toNatClampNeg), u9]) (st' := [.int (mi 83 x7.toNatClampNeg), .ref 85]) (by decide +kernel) (fun _ => rfl)).trans ?_
      refine (R_iaload (kd := 100) (n := 6) (by decide +kernel) rfl (by decide) (h2 c0 c1)).trans ?_
      refine (R_pure0 (ins := .istore 9) (len := 2) (loc' := [.ref 68, .int x1, .int x2, .int x3, .int x4, .int x5, .int x6, .int x7, .int (mi 83 x7.toNatClampNeg), .int (mi 85 (mi 83 x7.toNatClampNeg).toNatClampNeg)]) (st' := []) (by decide +kernel) (fun _ => rfl)).trans ?_
      refine (R_pure0 (ins := .aload_n 0) (len := 1) (loc' := [.ref 68, .int x1, .int x2, .int x3, .int x4, .int x5, .int x6, .int x7, .int (mi 83 x7.toNatClampNeg), .int (mi 85 (mi 83 x7.toNatClampNeg).toNatClampNeg)]) (st' := [.ref 68]) (by decide +kernel) (fun _ => rfl)).trans ?_
      refine (R_gr (i := 63) (ci := 10) (k := 24) (n := 33) (b := 85) (by decide +kernel) (by decide +kernel) (by decide) rfl (SH_ref (by decide +kernel))).trans ?_
      refine (R_pure0 (ins := .iload 8) (len := 2) (loc' := [.ref 68, .int x1, .int x2, .int x3, .int x4, .int x5, .int x6, .int x7, .int (mi 83 x7.toNatClampNeg), .int (mi 85 (mi 83 x7.toNatClampNeg).toNatClampNeg)]) (st' := [.int (mi 83 x7.toNatClampNeg), .ref 85]) (by decide +kernel) (fun _ => rfl)).trans ?_
      refine (R_pure0 (ins := .dup2) (len := 1) (loc' := [.ref 68, .int x1, .int x2, .int x3, .int x4, .int x5, .int x6, .int x7, .int (mi 83 x7.toNatClampNeg), .int (mi 85 (mi 83 x7.toNatClampNeg).toNatClampNeg)]) (st' := [.int (mi 83 x7.toNatClampNeg), .ref 85, .int (mi 83 x7.toNatClampNeg), .ref 85]) (by decide +kernel) (fun _ => rfl)).trans ?_
      refine (R_iaload (kd := 100) (n := 6) (by decide +kernel) rfl (by decide) (h3 c0 c1)).trans ?_
      refine (R_iconst (n := 1) (v := 1) (by decide +kernel) (by decide +kernel)).trans ?_
      refine (R_pure0 (ins := .iadd) (len := 1) (loc' := [.ref 68, .int x1, .int x2, .int x3, .int x4, .int x5, .int x6, .int x7, .int (mi 83 x7.toNatClampNeg), .int (mi 85 (mi 83 x7.toNatClampNeg).toNatClampNeg)]) (st' := [.int ((mi 85 (mi 83 x7.toNatClampNeg).toNatClampNeg) + 1), .int (mi 83 x7.toNatClampNeg), .ref 85]) (by decide +kernel) (fun _ => rfl)).trans ?_
      refine (R_iastore (n := 6) (by decide +kernel) rfl (h4 c0 c1)).trans ?_
      refine (R_pure0 (ins := .iload 9) (len := 2) (loc' := [.ref 68, .int x1, .int x2, .int x3, .int x4, .int x5, .int x6, .int x7, .int (mi 83 x7.toNatClampNeg), .int (mi 85 (mi 83 x7.toNatClampNeg).toNatClampNeg)]) (st' := [.int (mi 85 (mi 83 x7.toNatClampNeg).toNatClampNeg)]) (by decide +kernel) (fun _ => rfl)).trans ?_
      refine (R_bipush (n := 9) (v := 9) (by decide +kernel) (by decide +kernel)).trans ?_
      refine (R_icmp_ge (off := 49) (t := 169) (by decide +kernel) (by decide +kernel)).trans (ite_congr rfl (fun c2 => ?_) (fun c2 => ?_))
      · refine (R_pure0 (ins := .aload_n 0) (len := 1) (loc' := [.ref 68, .int x1, .int x2, .int x3, .int x4, .int x5, .int x6, .int x7, .int (mi 83 x7.toNatClampNeg), .int (mi 85 (mi 83 x7.toNatClampNeg).toNatClampNeg)]) (st' := [.ref 68]) (by decide +kernel) (fun _ => rfl)).trans ?_
        refine (R_pure0 (ins := .iload 8) (len := 2) (loc' := [.ref 68, .int x1, .int x2, .int x3, .int x4, .int x5, .int x6, .int x7, .int (mi 83 x7.toNatClampNeg), .int (mi 85 (mi 83 x7.toNatClampNeg).toNatClampNeg)]) (st' := [.int (mi 83 x7.toNatClampNeg), .ref 68]) (by decide +kernel) (fun _ => rfl)).trans ?_
        refine (R_pure0 (ins := .iload 9) (len := 2) (loc' := [.ref 68, .int x1, .int x2, .int x3, .int x4, .int x5, .int x6, .int x7, .int (mi 83 x7.toNatClampNeg), .int (mi 85 (mi 83 x7.toNatClampNeg).toNatClampNeg)]) (st' := [.int (mi 85 (mi 83 x7.toNatClampNeg).toNatClampNeg), .int (mi 83 x7.toNatClampNeg), .ref 68]) (by decide +kernel) (fun _ => rfl)).trans ?_
        refine (R_virt (i := 178) (f := 180) (kd := 0) (na := 2) (ml := 3) (ci := 10) (n := 33) (b := 68) (As := [.int (mi 83 x7.toNatClampNeg), .int (mi 85 (mi 83 x7.toNatClampNeg).toNatClampNeg)]) (rest := []) (by decide +kernel) (by decide +kernel) (by decide) (by decide +kernel) rfl (by decide +kernel) rfl rfl (by decide +kernel) (Nat.le_of_ble_eq_true rfl)).trans ?_
        rfl
      · refine (R_ldc (i := 218) (v := 1000000) (by decide +kernel) (by decide +kernel)).trans ?_
        refine (R_pure0 (ins := .istore 6) (len := 2) (loc' := [.ref 68, .int x1, .int x2, .int x3, .int x4, .int x5, .int 1000000, .int x7, .int (mi 83 x7.toNatClampNeg), .int (mi 85 (mi 83 x7.toNatClampNeg).toNatClampNeg)]) (st' := []) (by decide +kernel) (fun _ => rfl)).trans ?_
        refine (R_iinc (k := 7) (n := 1) (x := x7) (v := (x7 + 1)) (loc' := [.ref 68, .int x1, .int x2, .int x3, .int x4, .int x5, .int 1000000, .int (x7 + 1), .int (mi 83 x7.toNatClampNeg), .int (mi 85 (mi 83 x7.toNatClampNeg).toNatClampNeg)]) (by decide +kernel) rfl rfl rfl).trans ?_
        refine (R_goto (off := (-103)) (t := 73) (by decide +kernel) (by decide +kernel)).trans ?_
        rfl
    · refine (R_pure0 (ins := .iload 6) (len := 2) (loc' := [.ref 68, .int x1, .int x2, .int x3, .int x4, .int x5, .int x6, .int x7, u8, u9]) (st' := [.int x6]) (by decide +kernel) (fun _ => rfl)).trans ?_
      exact R_ireturn (by decide +kernel) (by decide +kernel)
  · refine (R_pure0 (ins := .iload 6) (len := 2) (loc' := [.ref 68, .int x1, .int x2, .int x3, .int x4, .int x5, .int x6, .int x7, u8, u9]) (st' := [.int x6]) (by decide +kernel) (fun _ => rfl)).trans ?_
    exact R_ireturn (by decide +kernel) (by decide +kernel)
theorem s210_41g {u4 u5 : Value} {L : Nat} {mi : Nat → Nat → Int32} {ml : Nat → Nat → Int64} {d : Nat} {Q : Option Value → xM → Prop} {x1 x2 x3 : Int32} : X 210 41 [.ref 68, .int x1, .int x2, .int x3, u4, u5] [] (SH L, mi, ml, MR) (d + 1) Q =
    if (x3 < x2) then (Xm 208 [.ref 68, .int x3, .int x1, .int 0] (SH L, mi, ml, MR) d (fun v μ' => X 210 53 [.ref 68, .int x1, .int x2, .int x3, u4, u5] (v.toList ++ []) μ' (d + 1) Q)) else (if ((mi 68 25) = 0) then (Q none (SH L, (xw mi 68 26 0), ml, MR)) else (Q none (SH L, (xw mi 68 26 (mi 68 26)), ml, MR))) := by
  refine (R_pure0 (ins := .iload_n 3) (len := 1) (loc' := [.ref 68, .int x1, .int x2, .int x3, u4, u5]) (st' := [.int x3]) (by decide +kernel) (fun _ => rfl)).trans ?_
  refine (R_pure0 (ins := .iload_n 2) (len := 1) (loc' := [.ref 68, .int x1, .int x2, .int x3, u4, u5]) (st' := [.int x2, .int x3]) (by decide +kernel) (fun _ => rfl)).trans ?_
  refine (R_icmp_ge (off := 121) (t := 164) (by decide +kernel) (by decide +kernel)).trans (ite_congr rfl (fun c0 => ?_) (fun c0 => ?_))
  · refine (R_pure0 (ins := .aload_n 0) (len := 1) (loc' := [.ref 68, .int x1, .int x2, .int x3, u4, u5]) (st' := [.ref 68]) (by decide +kernel) (fun _ => rfl)).trans ?_
    refine (R_pure0 (ins := .iload_n 3) (len := 1) (loc' := [.ref 68, .int x1, .int x2, .int x3, u4, u5]) (st' := [.int x3, .ref 68]) (by decide +kernel) (fun _ => rfl)).trans ?_
    refine (R_pure0 (ins := .iload_n 1) (len := 1) (loc' := [.ref 68, .int x1, .int x2, .int x3, u4, u5]) (st' := [.int x1, .int x3, .ref 68]) (by decide +kernel) (fun _ => rfl)).trans ?_
    refine (R_iconst (n := 0) (v := 0) (by decide +kernel) (by decide +kernel)).trans ?_
    refine (R_virt (i := 231) (f := 208) (kd := 0) (na := 3) (ml := 10) (ci := 10) (n := 33) (b := 68) (As := [.int x3, .int x1, .int 0]) (rest := []) (by decide +kernel) (by decide +kernel) (by decide) (by decide +kernel) rfl (by decide +kernel) rfl rfl (by decide +kernel) (Nat.le_of_ble_eq_true rfl)).trans ?_
    rfl
  · refine (R_pure0 (ins := .aload_n 0) (len := 1) (loc' := [.ref 68, .int x1, .int x2, .int x3, u4, u5]) (st' := [.ref 68]) (by decide +kernel) (fun _ => rfl)).trans ?_
    refine (R_pure0 (ins := .aload_n 0) (len := 1) (loc' := [.ref 68, .int x1, .int x2, .int x3, u4, u5]) (st' := [.ref 68, .ref 68]) (by decide +kernel) (fun _ => rfl)).trans ?_
    refine (R_gi (i := 234) (ci := 10) (k := 25) (n := 33) (by decide +kernel) (by decide +kernel) (by decide) rfl).trans ?_
    refine (R_if_ne (off := 7) (t := 176) (by decide +kernel) (by decide +kernel)).trans (ite_congr rfl (fun c1 => ?_) (fun c1 => ?_))
    · refine (R_iconst (n := 0) (v := 0) (by decide +kernel) (by decide +kernel)).trans ?_
      refine (R_goto (off := 7) (t := 180) (by decide +kernel) (by decide +kernel)).trans ?_
      refine (R_pi (i := 237) (ci := 10) (k := 26) (n := 33) (by decide +kernel) (by decide +kernel) (by decide) rfl).trans ?_
      exact R_return (by decide +kernel) (by decide +kernel)
    · refine (R_pure0 (ins := .aload_n 0) (len := 1) (loc' := [.ref 68, .int x1, .int x2, .int x3, u4, u5]) (st' := [.ref 68, .ref 68]) (by decide +kernel) (fun _ => rfl)).trans ?_
      refine (R_gi (i := 237) (ci := 10) (k := 26) (n := 33) (by decide +kernel) (by decide +kernel) (by decide) rfl).trans ?_
      refine (R_pi (i := 237) (ci := 10) (k := 26) (n := 33) (by decide +kernel) (by decide +kernel) (by decide) rfl).trans ?_
      exact R_return (by decide +kernel) (by decide +kernel)
theorem s210_53g {u4 u5 : Value} {L : Nat} {mi : Nat → Nat → Int32} {ml : Nat → Nat → Int64} {d : Nat} {Q : Option Value → xM → Prop} {x1 x2 x3 y : Int32} : X 210 53 [.ref 68, .int x1, .int x2, .int x3, u4, u5] [.int y] (SH L, mi, ml, MR) d Q =
    if (y = 0) then (X 210 62 [.ref 68, .int x1, .int x2, .int x3, .int 0, .int 0] [] (SH L, mi, ml, MR) d Q) else (X 210 41 [.ref 68, .int x1, .int x2, .int (x3 + 1), u4, u5] [] (SH L, mi, ml, MR) d Q) := by
  refine (R_if_ne (off := 105) (t := 158) (by decide +kernel) (by decide +kernel)).trans (ite_congr rfl (fun c0 => ?_) (fun c0 => ?_))
  · refine (R_iconst (n := 0) (v := 0) (by decide +kernel) (by decide +kernel)).trans ?_
    refine (R_pure0 (ins := .istore 4) (len := 2) (loc' := [.ref 68, .int x1, .int x2, .int x3, .int 0, u5]) (st' := []) (by decide +kernel) (fun _ => rfl)).trans ?_
    refine (R_iconst (n := 0) (v := 0) (by decide +kernel) (by decide +kernel)).trans ?_
    refine (R_pure0 (ins := .istore 5) (len := 2) (loc' := [.ref 68, .int x1, .int x2, .int x3, .int 0, .int 0]) (st' := []) (by decide +kernel) (fun _ => rfl)).trans ?_
    rfl
  · refine (R_iinc (k := 3) (n := 1) (x := x3) (v := (x3 + 1)) (loc' := [.ref 68, .int x1, .int x2, .int (x3 + 1), u4, u5]) (by decide +kernel) rfl rfl rfl).trans ?_
    refine (R_goto (off := (-120)) (t := 41) (by decide +kernel) (by decide +kernel)).trans ?_
    rfl
