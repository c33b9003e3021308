/-! segments with dead locals left open -/
theorem s64_24g {u4 u5 u6 : Value} {L : Nat} {mi : Nat → Nat → Int32} {ml : Nat → Nat → Int64} {d : Nat} {Q : Option Value → xM → Prop} {x2 x3 : Int32} {r1 : Nat} {n_r1 : Nat} (hS_r1 : isStrip L r1 n_r1) : X 64 24 [.ref 35, .ref r1, .int x2, .int x3, u4, u5, u6] [] (SH L, mi, ml, MR) (d + 1) Q =
    if (x3 < x2) then (Xm 90 [.ref r1, .int x3] (SH L, mi, ml, MR) d (fun v μ' => X 64 34 [.ref 35, .ref r1, .int x2, .int x3, u4, u5, u6] (v.toList ++ []) μ' (d + 1) Q)) else (Xm 88 [.ref 36] (SH L, mi, ml, MR) d (fun v μ' => X 64 109 [.ref 35, .ref r1, .int x2, .int x3, u4, u5, u6] (v.toList ++ []) μ' (d + 1) Q)) := by
  refine (R_pure0 (ins := .iload_n 3) (len := 1) (loc' := [.ref 35, .ref r1, .int x2, .int x3, u4, u5, u6]) (st' := [.int x3]) (by decide +kernel) (fun _ => rfl)).trans ?_
  refine (R_pure0 (ins := .iload_n 2) (len := 1) (loc' := [.ref 35, .ref r1, .int x2, .int x3, u4, u5, u6]) (st' := [.int x2, .int x3]) (by decide +kernel) (fun _ => rfl)).trans ?_
  refine (R_icmp_ge (off := 76) (t := 102) (by decide +kernel) (by decide +kernel)).trans (ite_congr rfl (fun c0 => ?_) (fun c0 => ?_))
  · refine (R_pure0 (ins := .aload_n 1) (len := 1) (loc' := [.ref 35, .ref r1, .int x2, .int x3, u4, u5, u6]) (st' := [.ref r1]) (by decide +kernel) (fun _ => rfl)).trans ?_
    refine (R_pure0 (ins := .iload_n 3) (len := 1) (loc' := [.ref 35, .ref r1, .int x2, .int x3, u4, u5, u6]) (st' := [.int x3, .ref r1]) (by decide +kernel) (fun _ => rfl)).trans ?_
    refine (R_virt (i := 28) (f := 90) (kd := 0) (na := 1) (ml := 2) (ci := 8) (n := 2) (b := r1) (As := [.int x3]) (rest := []) (by decide +kernel) (by decide +kernel) (by decide) (by decide +kernel) rfl (by decide +kernel) hS_r1.1 rfl (by decide +kernel) (Nat.le_of_ble_eq_true rfl)).trans ?_
    rfl
  · refine (R_pure0 (ins := .aload_n 0) (len := 1) (loc' := [.ref 35, .ref r1, .int x2, .int x3, u4, u5, u6]) (st' := [.ref 35]) (by decide +kernel) (fun _ => rfl)).trans ?_
    refine (R_gr (i := 16) (ci := 5) (k := 0) (n := 1) (b := 36) (by decide +kernel) (by decide +kernel) (by decide) rfl (SH_ref (by decide +kernel))).trans ?_
    refine (R_virt (i := 24) (f := 88) (kd := 0) (na := 0) (ml := 1) (ci := 8) (n := 2) (b := 36) (As := []) (rest := []) (by decide +kernel) (by decide +kernel) (by decide) (by decide +kernel) rfl (by decide +kernel) rfl rfl (by decide +kernel) (Nat.le_of_ble_eq_true rfl)).trans ?_
    rfl
theorem s64_34g {u4 u5 u6 : Value} {L : Nat} {mi : Nat → Nat → Int32} {ml : Nat → Nat → Int64} {d : Nat} {Q : Option Value → xM → Prop} {x2 x3 y : Int32} {r1 : Nat} {n_r1 : Nat} (hS_r1 : isStrip L r1 n_r1) : X 64 34 [.ref 35, .ref r1, .int x2, .int x3, u4, u5, u6] [.int y] (SH L, mi, ml, MR) (d + 1) Q =
    Xm 88 [.ref 36] (SH L, mi, ml, MR) d (fun v μ' => X 64 43 [.ref 35, .ref r1, .int x2, .int x3, .int y, u5, u6] (v.toList ++ []) μ' (d + 1) Q) := by
  refine (R_pure0 (ins := .istore 4) (len := 2) (loc' := [.ref 35, .ref r1, .int x2, .int x3, .int y, u5, u6]) (st' := []) (by decide +kernel) (fun _ => rfl)).trans ?_
  refine (R_pure0 (ins := .aload_n 0) (len := 1) (loc' := [.ref 35, .ref r1, .int x2, .int x3, .int y, u5, u6]) (st' := [.ref 35]) (by decide +kernel) (fun _ => rfl)).trans ?_
  refine (R_gr (i := 16) (ci := 5) (k := 0) (n := 1) (b := 36) (by decide +kernel) (by decide +kernel) (by decide) rfl (SH_ref (by decide +kernel))).trans ?_
  refine (R_virt (i := 24) (f := 88) (kd := 0) (na := 0) (ml := 1) (ci := 8) (n := 2) (b := 36) (As := []) (rest := []) (by decide +kernel) (by decide +kernel) (by decide) (by decide +kernel) rfl (by decide +kernel) rfl rfl (by decide +kernel) (Nat.le_of_ble_eq_true rfl)).trans ?_
  rfl
theorem s64_43g {u5 u6 : Value} {L : Nat} {mi : Nat → Nat → Int32} {ml : Nat → Nat → Int64} {d : Nat} {Q : Option Value → xM → Prop} {x2 x3 x4 y : Int32} {r1 : Nat} {n_r1 : Nat} (hS_r1 : isStrip L r1 n_r1) : X 64 43 [.ref 35, .ref r1, .int x2, .int x3, .int x4, u5, u6] [.int y] (SH L, mi, ml, MR) (d + 1) Q =
    if ((y - y / 4 * 4) = 0) then (if (x4 = 32) then (X 64 24 [.ref 35, .ref r1, .int x2, .int (x3 + 1), .int x4, .int 1, u6] [] (SH L, mi, ml, MR) (d + 1) Q) else (Xm 65 [.ref 35, .int x4] (SH L, mi, ml, MR) d (fun v μ' => X 64 76 [.ref 35, .ref r1, .int x2, .int x3, .int x4, .int 1, u6] (v.toList ++ []) μ' (d + 1) Q))) else (Xm 65 [.ref 35, .int x4] (SH L, mi, ml, MR) d (fun v μ' => X 64 76 [.ref 35, .ref r1, .int x2, .int x3, .int x4, .int 0, u6] (v.toList ++ []) μ' (d + 1) Q)) := by
  refine (R_iconst (n := 4) (v := 4) (by decide +kernel) (by decide +kernel)).trans ?_
  refine (R_irem (x := y) (y := 4) (by decide +kernel) (by decide)).trans ?_
  refine (R_if_ne (off := 7) (t := 52) (by decide +kernel) (by decide +kernel)).trans (ite_congr rfl (fun c0 => ?_) (fun c0 => ?_))
  · refine (R_iconst (n := 1) (v := 1) (by decide +kernel) (by decide +kernel)).trans ?_
    refine (R_goto (off := 4) (t := 53) (by decide +kernel) (by decide +kernel)).trans ?_
    refine (R_pure0 (ins := .istore 5) (len := 2) (loc' := [.ref 35, .ref r1, .int x2, .int x3, .int x4, .int 1, u6]) (st' := []) (by decide +kernel) (fun _ => rfl)).trans ?_
    refine (R_pure0 (ins := .iload 5) (len := 2) (loc' := [.ref 35, .ref r1, .int x2, .int x3, .int x4, .int 1, u6]) (st' := [.int 1]) (by decide +kernel) (fun _ => rfl)).trans ?_
    refine (R_if_eq (off := 13) (t := 70) (by decide +kernel) (by decide +kernel)).trans ((if_neg (by decide)).trans ?_)
    refine (R_pure0 (ins := .iload 4) (len := 2) (loc' := [.ref 35, .ref r1, .int x2, .int x3, .int x4, .int 1, u6]) (st' := [.int x4]) (by decide +kernel) (fun _ => rfl)).trans ?_
    refine (R_bipush (n := 32) (v := 32) (by decide +kernel) (by decide +kernel)).trans ?_
    refine (R_icmp_ne (off := 6) (t := 70) (by decide +kernel) (by decide +kernel)).trans (ite_congr rfl (fun c1 => ?_) (fun c1 => ?_))
    · refine (R_goto (off := 29) (t := 96) (by decide +kernel) (by decide +kernel)).trans ?_
      refine (R_iinc (k := 3) (n := 1) (x := x3) (v := (x3 + 1)) (loc' := [.ref 35, .ref r1, .int x2, .int (x3 + 1), .int x4, .int 1, u6]) (by decide +kernel) rfl rfl rfl).trans ?_
      refine (R_goto (off := (-75)) (t := 24) (by decide +kernel) (by decide +kernel)).trans ?_
      rfl
    · refine (R_pure0 (ins := .aload_n 0) (len := 1) (loc' := [.ref 35, .ref r1, .int x2, .int x3, .int x4, .int 1, u6]) (st' := [.ref 35]) (by decide +kernel) (fun _ => rfl)).trans ?_
      refine (R_pure0 (ins := .iload 4) (len := 2) (loc' := [.ref 35, .ref r1, .int x2, .int x3, .int x4, .int 1, u6]) (st' := [.int x4, .ref 35]) (by decide +kernel) (fun _ => rfl)).trans ?_
      refine (R_virt (i := 32) (f := 65) (kd := 0) (na := 1) (ml := 5) (ci := 5) (n := 1) (b := 35) (As := [.int x4]) (rest := []) (by decide +kernel) (by decide +kernel) (by decide) (by decide +kernel) rfl (by decide +kernel) rfl rfl (by decide +kernel) (Nat.le_of_ble_eq_true rfl)).trans ?_
      rfl
  · refine (R_iconst (n := 0) (v := 0) (by decide +kernel) (by decide +kernel)).trans ?_
    refine (R_pure0 (ins := .istore 5) (len := 2) (loc' := [.ref 35, .ref r1, .int x2, .int x3, .int x4, .int 0, u6]) (st' := []) (by decide +kernel) (fun _ => rfl)).trans ?_
    refine (R_pure0 (ins := .iload 5) (len := 2) (loc' := [.ref 35, .ref r1, .int x2, .int x3, .int x4, .int 0, u6]) (st' := [.int 0]) (by decide +kernel) (fun _ => rfl)).trans ?_
    refine (R_if_eq (off := 13) (t := 70) (by decide +kernel) (by decide +kernel)).trans ((if_pos (by decide)).trans ?_)
    refine (R_pure0 (ins := .aload_n 0) (len := 1) (loc' := [.ref 35, .ref r1, .int x2, .int x3, .int x4, .int 0, u6]) (st' := [.ref 35]) (by decide +kernel) (fun _ => rfl)).trans ?_
    refine (R_pure0 (ins := .iload 4) (len := 2) (loc' := [.ref 35, .ref r1, .int x2, .int x3, .int x4, .int 0, u6]) (st' := [.int x4, .ref 35]) (by decide +kernel) (fun _ => rfl)).trans ?_
    refine (R_virt (i := 32) (f := 65) (kd := 0) (na := 1) (ml := 5) (ci := 5) (n := 1) (b := 35) (As := [.int x4]) (rest := []) (by decide +kernel) (by decide +kernel) (by decide) (by decide +kernel) rfl (by decide +kernel) rfl rfl (by decide +kernel) (Nat.le_of_ble_eq_true rfl)).trans ?_
    rfl
theorem s64_76g {u4 u5 u6 : Value} {L : Nat} {mi : Nat → Nat → Int32} {ml : Nat → Nat → Int64} {d : Nat} {Q : Option Value → xM → Prop} {x2 x3 y : Int32} {r1 : Nat} {n_r1 : Nat} (hS_r1 : isStrip L r1 n_r1) : X 64 76 [.ref 35, .ref r1, .int x2, .int x3, u4, u5, u6] [.int y] (SH L, mi, ml, MR) (d + 1) Q =
    if (y = (-9)) then (Q (some (.int x3)) (SH L, mi, ml, MR)) else (Xm 93 [.ref 36, .int y] (SH L, mi, ml, MR) d (fun v μ' => X 64 96 [.ref 35, .ref r1, .int x2, .int x3, u4, u5, .int y] (v.toList ++ []) μ' (d + 1) Q)) := by
  refine (R_pure0 (ins := .istore 6) (len := 2) (loc' := [.ref 35, .ref r1, .int x2, .int x3, u4, u5, .int y]) (st' := []) (by decide +kernel) (fun _ => rfl)).trans ?_
  refine (R_pure0 (ins := .iload 6) (len := 2) (loc' := [.ref 35, .ref r1, .int x2, .int x3, u4, u5, .int y]) (st' := [.int y]) (by decide +kernel) (fun _ => rfl)).trans ?_
  refine (R_bipush (n := (-9)) (v := (-9)) (by decide +kernel) (by decide +kernel)).trans ?_
  refine (R_icmp_ne (off := 5) (t := 87) (by decide +kernel) (by decide +kernel)).trans (ite_congr rfl (fun c0 => ?_) (fun c0 => ?_))
  · refine (R_pure0 (ins := .iload_n 3) (len := 1) (loc' := [.ref 35, .ref r1, .int x2, .int x3, u4, u5, .int y]) (st' := [.int x3]) (by decide +kernel) (fun _ => rfl)).trans ?_
    exact R_ireturn (by decide +kernel) (by decide +kernel)
  · refine (R_pure0 (ins := .aload_n 0) (len := 1) (loc' := [.ref 35, .ref r1, .int x2, .int x3, u4, u5, .int y]) (st' := [.ref 35]) (by decide +kernel) (fun _ => rfl)).trans ?_
    refine (R_gr (i := 16) (ci := 5) (k := 0) (n := 1) (b := 36) (by decide +kernel) (by decide +kernel) (by decide) rfl (SH_ref (by decide +kernel))).trans ?_
    refine (R_pure0 (ins := .iload 6) (len := 2) (loc' := [.ref 35, .ref r1, .int x2, .int x3, u4, u5, .int y]) (st' := [.int y, .ref 36]) (by decide +kernel) (fun _ => rfl)).trans ?_
    refine (R_virt (i := 35) (f := 93) (kd := 0) (na := 1) (ml := 2) (ci := 8) (n := 2) (b := 36) (As := [.int y]) (rest := []) (by decide +kernel) (by decide +kernel) (by decide) (by decide +kernel) rfl (by decide +kernel) rfl rfl (by decide +kernel) (Nat.le_of_ble_eq_true rfl)).trans ?_
    rfl
theorem s64_96g {u4 u5 u6 : Value} {L : Nat} {mi : Nat → Nat → Int32} {ml : Nat → Nat → Int64} {d : Nat} {Q : Option Value → xM → Prop} {x2 x3 : Int32} {r1 : Nat} {n_r1 : Nat} (hS_r1 : isStrip L r1 n_r1) : X 64 96 [.ref 35, .ref r1, .int x2, .int x3, u4, u5, u6] [] (SH L, mi, ml, MR) d Q =
    X 64 24 [.ref 35, .ref r1, .int x2, .int (x3 + 1), u4, u5, u6] [] (SH L, mi, ml, MR) d Q := by
  refine (R_iinc (k := 3) (n := 1) (x := x3) (v := (x3 + 1)) (loc' := [.ref 35, .ref r1, .int x2, .int (x3 + 1), u4, u5, u6]) (by decide +kernel) rfl rfl rfl).trans ?_
  refine (R_goto (off := (-75)) (t := 24) (by decide +kernel) (by decide +kernel)).trans ?_
  rfl
theorem s64_109g {u4 u5 u6 : Value} {L : Nat} {mi : Nat → Nat → Int32} {ml : Nat → Nat → Int64} {d : Nat} {Q : Option Value → xM → Prop} {x2 x3 y : Int32} {r1 : Nat} {n_r1 : Nat} (hS_r1 : isStrip L r1 n_r1) : X 64 109 [.ref 35, .ref r1, .int x2, .int x3, u4, u5, u6] [.int y] (SH L, mi, ml, MR) (d + 1) Q =
    if ((0 : Int32) < y) then (Xm 88 [.ref 36] (SH L, mi, ml, MR) d (fun v μ' => X 64 119 [.ref 35, .ref r1, .int x2, .int x3, u4, u5, u6] (v.toList ++ []) μ' (d + 1) Q)) else (Q (some (.int x2)) (SH L, mi, ml, MR)) := by
  refine (R_if_le (off := 19) (t := 128) (by decide +kernel) (by decide +kernel)).trans (ite_congr rfl (fun c0 => ?_) (fun c0 => ?_))
  · refine (R_pure0 (ins := .aload_n 0) (len := 1) (loc' := [.ref 35, .ref r1, .int x2, .int x3, u4, u5, u6]) (st' := [.ref 35]) (by decide +kernel) (fun _ => rfl)).trans ?_
    refine (R_gr (i := 16) (ci := 5) (k := 0) (n := 1) (b := 36) (by decide +kernel) (by decide +kernel) (by decide) rfl (SH_ref (by decide +kernel))).trans ?_
    refine (R_virt (i := 24) (f := 88) (kd := 0) (na := 0) (ml := 1) (ci := 8) (n := 2) (b := 36) (As := []) (rest := []) (by decide +kernel) (by decide +kernel) (by decide) (by decide +kernel) rfl (by decide +kernel) rfl rfl (by decide +kernel) (Nat.le_of_ble_eq_true rfl)).trans ?_
    rfl
  · refine (R_iconst (n := 0) (v := 0) (by decide +kernel) (by decide +kernel)).trans ?_
    refine (R_pure0 (ins := .istore_n 3) (len := 1) (loc' := [.ref 35, .ref r1, .int x2, .int 0, u4, u5, u6]) (st' := []) (by decide +kernel) (fun _ => rfl)).trans ?_
    refine (R_pure0 (ins := .iload_n 3) (len := 1) (loc' := [.ref 35, .ref r1, .int x2, .int 0, u4, u5, u6]) (st' := [.int 0]) (by decide +kernel) (fun _ => rfl)).trans ?_
    refine (R_if_eq (off := 8) (t := 139) (by decide +kernel) (by decide +kernel)).trans ((if_pos (by decide)).trans ?_)
    refine (R_pure0 (ins := .iload_n 2) (len := 1) (loc' := [.ref 35, .ref r1, .int x2, .int 0, u4, u5, u6]) (st' := [.int x2]) (by decide +kernel) (fun _ => rfl)).trans ?_
    exact R_ireturn (by decide +kernel) (by decide +kernel)
theorem s64_119g {u4 u5 u6 : Value} {L : Nat} {mi : Nat → Nat → Int32} {ml : Nat → Nat → Int64} {d : Nat} {Q : Option Value → xM → Prop} {x2 x3 y : Int32} {r1 : Nat} {n_r1 : Nat} (hS_r1 : isStrip L r1 n_r1) : X 64 119 [.ref 35, .ref r1, .int x2, .int x3, u4, u5, u6] [.int y] (SH L, mi, ml, MR) d Q =
    if ((y - y / 4 * 4) = 0) then (Q (some (.int (-9))) (SH L, mi, ml, MR)) else (Q (some (.int x2)) (SH L, mi, ml, MR)) := by
  refine (R_iconst (n := 4) (v := 4) (by decide +kernel) (by decide +kernel)).trans ?_
  refine (R_irem (x := y) (y := 4) (by decide +kernel) (by decide)).trans ?_
  refine (R_if_ne (off := 7) (t := 128) (by decide +kernel) (by decide +kernel)).trans (ite_congr rfl (fun c0 => ?_) (fun c0 => ?_))
  · refine (R_iconst (n := 1) (v := 1) (by decide +kernel) (by decide +kernel)).trans ?_
    refine (R_goto (off := 4) (t := 129) (by decide +kernel) (by decide +kernel)).trans ?_
    refine (R_pure0 (ins := .istore_n 3) (len := 1) (loc' := [.ref 35, .ref r1, .int x2, .int 1, u4, u5, u6]) (st' := []) (by decide +kernel) (fun _ => rfl)).trans ?_
    refine (R_pure0 (ins := .iload_n 3) (len := 1) (loc' := [.ref 35, .ref r1, .int x2, .int 1, u4, u5, u6]) (st' := [.int 1]) (by decide +kernel) (fun _ => rfl)).trans ?_
    refine (R_if_eq (off := 8) (t := 139) (by decide +kernel) (by decide +kernel)).trans ((if_neg (by decide)).trans ?_)
    refine (R_bipush (n := (-9)) (v := (-9)) (by decide +kernel) (by decide +kernel)).trans ?_
    refine (R_goto (off := 4) (t := 140) (by decide +kernel) (by decide +kernel)).trans ?_
    exact R_ireturn (by decide +kernel) (by decide +kernel)
  · refine (R_iconst (n := 0) (v := 0) (by decide +kernel) (by decide +kernel)).trans ?_
    refine (R_pure0 (ins := .istore_n 3) (len := 1) (loc' := [.ref 35, .ref r1, .int x2, .int 0, u4, u5, u6]) (st' := []) (by decide +kernel) (fun _ => rfl)).trans ?_
    refine (R_pure0 (ins := .iload_n 3) (len := 1) (loc' := [.ref 35, .ref r1, .int x2, .int 0, u4, u5, u6]) (st' := [.int 0]) (by decide +kernel) (fun _ => rfl)).trans ?_
    refine (R_if_eq (off := 8) (t := 139) (by decide +kernel) (by decide +kernel)).trans ((if_pos (by decide)).trans ?_)
    refine (R_pure0 (ins := .iload_n 2) (len := 1) (loc' := [.ref 35, .ref r1, .int x2, .int 0, u4, u5, u6]) (st' := [.int x2]) (by decide +kernel) (fun _ => rfl)).trans ?_
    exact R_ireturn (by decide +kernel) (by decide +kernel)
theorem s168_51g {u5 : Value} {L : Nat} {mi : Nat → Nat → Int32} {ml : Nat → Nat → Int64} {d : Nat} {Q : Option Value → xM → Prop} {x1 x2 x3 x4 : Int32} : X 168 51 [.ref 68, .int x1, .int x2, .int x3, .int x4, u5] [] (SH L, mi, ml, MR) (d + 1) Q =
    if (x4 < 4) then (Xm 165 [.ref 68, .int x1] (SH L, mi, ml, MR) d (fun v μ' => X 168 62 [.ref 68, .int x1, .int x2, .int x3, .int x4, u5] (v.toList ++ []) μ' (d + 1) Q)) else (Q (some (.int 1)) (SH L, (xw mi 68 20 ((mi 68 20) + 1)), ml, MR)) := by
  refine (R_pure0 (ins := .iload 4) (len := 2) (loc' := [.ref 68, .int x1, .int x2, .int x3, .int x4, u5]) (st' := [.int x4]) (by decide +kernel) (fun _ => rfl)).trans ?_
  refine (R_iconst (n := 4) (v := 4) (by decide +kernel) (by decide +kernel)).trans ?_
  refine (R_icmp_ge (off := 65) (t := 119) (by decide +kernel) (by decide +kernel)).trans (ite_congr rfl (fun c0 => ?_) (fun c0 => ?_))
  · refine (R_pure0 (ins := .aload_n 0) (len := 1) (loc' := [.ref 68, .int x1, .int x2, .int x3, .int x4, u5]) (st' := [.ref 68]) (by decide +kernel) (fun _ => rfl)).trans ?_
    refine (R_pure0 (ins := .iload_n 1) (len := 1) (loc' := [.ref 68, .int x1, .int x2, .int x3, .int x4, u5]) (st' := [.int x1, .ref 68]) (by decide +kernel) (fun _ => rfl)).trans ?_
    refine (R_virt (i := 110) (f := 165) (kd := 0) (na := 1) (ml := 2) (ci := 10) (n := 33) (b := 68) (As := [.int x1]) (rest := []) (by decide +kernel) (by decide +kernel) (by decide) (by decide +kernel) rfl (by decide +kernel) rfl rfl (by decide +kernel) (Nat.le_of_ble_eq_true rfl)).trans ?_
    rfl
  · refine (R_pure0 (ins := .aload_n 0) (len := 1) (loc' := [.ref 68, .int x1, .int x2, .int x3, .int x4, u5]) (st' := [.ref 68]) (by decide +kernel) (fun _ => rfl)).trans ?_
    refine (R_pure0 (ins := .dup) (len := 1) (loc' := [.ref 68, .int x1, .int x2, .int x3, .int x4, u5]) (st' := [.ref 68, .ref 68]) (by decide +kernel) (fun _ => rfl)).trans ?_
    refine (R_gi (i := 116) (ci := 10) (k := 20) (n := 33) (by decide +kernel) (by decide +kernel) (by decide) rfl).trans ?_
    refine (R_iconst (n := 1) (v := 1) (by decide +kernel) (by decide +kernel)).trans ?_
    refine (R_pure0 (ins := .iadd) (len := 1) (loc' := [.ref 68, .int x1, .int x2, .int x3, .int x4, u5]) (st' := [.int ((mi 68 20) + 1), .ref 68]) (by decide +kernel) (fun _ => rfl)).trans ?_
    refine (R_pi (i := 116) (ci := 10) (k := 20) (n := 33) (by decide +kernel) (by decide +kernel) (by decide) rfl).trans ?_
    refine (R_iconst (n := 1) (v := 1) (by decide +kernel) (by decide +kernel)).trans ?_
    exact R_zreturn (by decide +kernel) (by decide +kernel) (by decide)
theorem s168_62g {u5 : Value} {L : Nat} {mi : Nat → Nat → Int32} {ml : Nat → Nat → Int64} {d : Nat} {Q : Option Value → xM → Prop} {x1 x2 x3 x4 y : Int32} : X 168 62 [.ref 68, .int x1, .int x2, .int x3, .int x4, u5] [.int y] (SH L, mi, ml, MR) (d + 1) Q =
    if (x4 = 2) then (Xm 149 [.long (y - 48).toInt64, .long 1, .long 9] (SH L, mi, ml, MR) d (fun v μ' => X 168 87 [.ref 68, .int x1, .int x2, .int x3, .int x4, .int (y - 48)] (v.toList ++ []) μ' (d + 1) Q)) else (Xm 149 [.long (y - 48).toInt64, .long 0, .long 9] (SH L, mi, ml, MR) d (fun v μ' => X 168 87 [.ref 68, .int x1, .int x2, .int x3, .int x4, .int (y - 48)] (v.toList ++ []) μ' (d + 1) Q)) := by
  refine (R_bipush (n := 48) (v := 48) (by decide +kernel) (by decide +kernel)).trans ?_
  refine (R_pure0 (ins := .isub) (len := 1) (loc' := [.ref 68, .int x1, .int x2, .int x3, .int x4, u5]) (st' := [.int (y - 48)]) (by decide +kernel) (fun _ => rfl)).trans ?_
  refine (R_pure0 (ins := .istore 5) (len := 2) (loc' := [.ref 68, .int x1, .int x2, .int x3, .int x4, .int (y - 48)]) (st' := []) (by decide +kernel) (fun _ => rfl)).trans ?_
  refine (R_pure0 (ins := .iload 5) (len := 2) (loc' := [.ref 68, .int x1, .int x2, .int x3, .int x4, .int (y - 48)]) (st' := [.int (y - 48)]) (by decide +kernel) (fun _ => rfl)).trans ?_
  refine (R_pure0 (ins := .i2l) (len := 1) (loc' := [.ref 68, .int x1, .int x2, .int x3, .int x4, .int (y - 48)]) (st' := [.long (y - 48).toInt64]) (by decide +kernel) (fun _ => rfl)).trans ?_
  refine (R_pure0 (ins := .iload 4) (len := 2) (loc' := [.ref 68, .int x1, .int x2, .int x3, .int x4, .int (y - 48)]) (st' := [.int x4, .long (y - 48).toInt64]) (by decide +kernel) (fun _ => rfl)).trans ?_
  refine (R_iconst (n := 2) (v := 2) (by decide +kernel) (by decide +kernel)).trans ?_
  refine (R_icmp_ne (off := 7) (t := 80) (by decide +kernel) (by decide +kernel)).trans (ite_congr rfl (fun c0 => ?_) (fun c0 => ?_))
  · refine (R_lconst (n := 1) (v := 1) (by decide +kernel) (by decide +kernel)).trans ?_
    refine (R_goto (off := 4) (t := 81) (by decide +kernel) (by decide +kernel)).trans ?_
    refine (R_ldc2 (i := 119) (v := 9) (by decide +kernel) (by decide +kernel)).trans ?_
    refine (R_static (i := 87) (f := 149) (kd := 2) (na := 3) (ml := 6) (As := [.long (y - 48).toInt64, .long 1, .long 9]) (rest := []) (by decide +kernel) (by decide +kernel) (by decide) (by decide +kernel) rfl rfl (by decide +kernel) (Nat.le_of_ble_eq_true rfl)).trans ?_
    rfl
  · refine (R_lconst (n := 0) (v := 0) (by decide +kernel) (by decide +kernel)).trans ?_
    refine (R_ldc2 (i := 119) (v := 9) (by decide +kernel) (by decide +kernel)).trans ?_
    refine (R_static (i := 87) (f := 149) (kd := 2) (na := 3) (ml := 6) (As := [.long (y - 48).toInt64, .long 0, .long 9]) (rest := []) (by decide +kernel) (by decide +kernel) (by decide) (by decide +kernel) rfl rfl (by decide +kernel) (Nat.le_of_ble_eq_true rfl)).trans ?_
    rfl
theorem s21_10g {u3 : Value} {L : Nat} {mi : Nat → Nat → Int32} {ml : Nat → Nat → Int64} {d : Nat} {Q : Option Value → xM → Prop} {x2 : Int32}  : X 21 10 [.ref 38, .ref 35, .int x2, u3] [] (SH L, mi, ml, MR) (d + 1) Q =
    if (x2 < (mi 38 2)) then (Xm 15 [.ref 38, .int x2] (SH L, mi, ml, MR) d (fun v μ' => X 21 23 [.ref 38, .ref 35, .int x2, u3] (v.toList ++ []) μ' (d + 1) Q)) else (Xm 25 [.ref 38, .int 0] (SH L, mi, ml, MR) d (fun v μ' => X 21 45 [.ref 38, .ref 35, .int x2, u3] (v.toList ++ []) μ' (d + 1) Q)) := by
  refine (R_pure0 (ins := .iload_n 2) (len := 1) (loc' := [.ref 38, .ref 35, .int x2, u3]) (st' := [.int x2]) (by decide +kernel) (fun _ => rfl)).trans ?_
  refine (R_pure0 (ins := .aload_n 0) (len := 1) (loc' := [.ref 38, .ref 35, .int x2, u3]) (st' := [.ref 38, .int x2]) (by decide +kernel) (fun _ => rfl)).trans ?_
  refine (R_gi (i := 26) (ci := 2) (k := 2) (n := 5) (by decide +kernel) (by decide +kernel) (by decide) rfl).trans ?_
  refine (R_icmp_ge (off := 25) (t := 40) (by decide +kernel) (by decide +kernel)).trans (ite_congr rfl (fun c0 => ?_) (fun c0 => ?_))
  · refine (R_pure0 (ins := .aload_n 0) (len := 1) (loc' := [.ref 38, .ref 35, .int x2, u3]) (st' := [.ref 38]) (by decide +kernel) (fun _ => rfl)).trans ?_
    refine (R_pure0 (ins := .iload_n 2) (len := 1) (loc' := [.ref 38, .ref 35, .int x2, u3]) (st' := [.int x2, .ref 38]) (by decide +kernel) (fun _ => rfl)).trans ?_
    refine (R_virt (i := 46) (f := 15) (kd := 0) (na := 1) (ml := 2) (ci := 2) (n := 5) (b := 38) (As := [.int x2]) (rest := []) (by decide +kernel) (by decide +kernel) (by decide) (by decide +kernel) rfl (by decide +kernel) rfl rfl (by decide +kernel) (Nat.le_of_ble_eq_true rfl)).trans ?_
    rfl
  · refine (R_pure0 (ins := .aload_n 0) (len := 1) (loc' := [.ref 38, .ref 35, .int x2, u3]) (st' := [.ref 38]) (by decide +kernel) (fun _ => rfl)).trans ?_
    refine (R_iconst (n := 0) (v := 0) (by decide +kernel) (by decide +kernel)).trans ?_
    refine (R_virt (i := 54) (f := 25) (kd := 0) (na := 1) (ml := 2) (ci := 2) (n := 5) (b := 38) (As := [.int 0]) (rest := []) (by decide +kernel) (by decide +kernel) (by decide) (by decide +kernel) rfl (by decide +kernel) rfl rfl (by decide +kernel) (Nat.le_of_ble_eq_true rfl)).trans ?_
    rfl
theorem s21_23g {u3 : Value} {L : Nat} {mi : Nat → Nat → Int32} {ml : Nat → Nat → Int64} {d : Nat} {Q : Option Value → xM → Prop} {x2 : Int32} {ry : Nat} (hS_ry : (SH L)[ry]? = some (4, 7)) : X 21 23 [.ref 38, .ref 35, .int x2, u3] [.ref ry] (SH L, mi, ml, MR) (d + 1) Q =
    Xm 50 [.ref ry, .ref 35, .int x2] (SH L, mi, ml, MR) d (fun v μ' => X 21 34 [.ref 38, .ref 35, .int x2, .ref ry] (v.toList ++ []) μ' (d + 1) Q) := by
  refine (R_pure0 (ins := .astore_n 3) (len := 1) (loc' := [.ref 38, .ref 35, .int x2, .ref ry]) (st' := []) (by decide +kernel) (fun _ => rfl)).trans ?_
  refine (R_pure0 (ins := .aload_n 3) (len := 1) (loc' := [.ref 38, .ref 35, .int x2, .ref ry]) (st' := [.ref ry]) (by decide +kernel) (fun _ => rfl)).trans ?_
  refine (R_ifnull_r (off := 9) (by decide +kernel)).trans ?_
  refine (R_pure0 (ins := .aload_n 3) (len := 1) (loc' := [.ref 38, .ref 35, .int x2, .ref ry]) (st' := [.ref ry]) (by decide +kernel) (fun _ => rfl)).trans ?_
  refine (R_pure0 (ins := .aload_n 1) (len := 1) (loc' := [.ref 38, .ref 35, .int x2, .ref ry]) (st' := [.ref 35, .ref ry]) (by decide +kernel) (fun _ => rfl)).trans ?_
  refine (R_pure0 (ins := .iload_n 2) (len := 1) (loc' := [.ref 38, .ref 35, .int x2, .ref ry]) (st' := [.int x2, .ref 35, .ref ry]) (by decide +kernel) (fun _ => rfl)).trans ?_
  refine (R_virt (i := 50) (f := 50) (kd := 0) (na := 2) (ml := 3) (ci := 4) (n := 7) (b := ry) (As := [.ref 35, .int x2]) (rest := []) (by decide +kernel) (by decide +kernel) (by decide) (by decide +kernel) rfl (by decide +kernel) hS_ry rfl (by decide +kernel) (Nat.le_of_ble_eq_true rfl)).trans ?_
  rfl
theorem s21_34g {u3 : Value} {L : Nat} {mi : Nat → Nat → Int32} {ml : Nat → Nat → Int64} {d : Nat} {Q : Option Value → xM → Prop} {x2 : Int32}  : X 21 34 [.ref 38, .ref 35, .int x2, u3] [] (SH L, mi, ml, MR) d Q =
    X 21 10 [.ref 38, .ref 35, .int (x2 + 1), u3] [] (SH L, mi, ml, MR) d Q := by
  refine (R_iinc (k := 2) (n := 1) (x := x2) (v := (x2 + 1)) (loc' := [.ref 38, .ref 35, .int (x2 + 1), u3]) (by decide +kernel) rfl rfl rfl).trans ?_
  refine (R_goto (off := (-27)) (t := 10) (by decide +kernel) (by decide +kernel)).trans ?_
  rfl
theorem s21_45g {u3 : Value} {L : Nat} {mi : Nat → Nat → Int32} {ml : Nat → Nat → Int64} {d : Nat} {Q : Option Value → xM → Prop} {x2 : Int32}  : X 21 45 [.ref 38, .ref 35, .int x2, u3] [] (SH L, mi, ml, MR) d Q =
    Q none (SH L, mi, ml, MR) := by
  exact R_return (by decide +kernel) (by decide +kernel)
theorem s84_2g {u2 : Value} {L : Nat} {mi : Nat → Nat → Int32} {ml : Nat → Nat → Int64} {d : Nat} {Q : Option Value → xM → Prop} {x1 : Int32} {a rb16 : Nat} {n_a : Nat} {n_rb16 : Nat} (hS_a : isShelf L a n_a) (hS_rb16 : isStrip L rb16 n_rb16) (h1 : (x1 < (Int32.ofNat n_a)) → xin x1 n_a = true) (h2 : (x1 < (Int32.ofNat n_a)) → MR (a + 1) x1.toNatClampNeg = some rb16) : X 84 2 [.ref a, .int x1, u2] [] (SH L, mi, ml, MR) (d + 1) Q =
    if (x1 < (Int32.ofNat n_a)) then (Xm 95 [.ref rb16] (SH L, mi, ml, MR) d (fun v μ' => X 84 26 [.ref a, .int x1, .ref rb16] (v.toList ++ []) μ' (d + 1) Q)) else (Q none (SH L, mi, ml, MR)) := by
  refine (R_pure0 (ins := .iload_n 1) (len := 1) (loc' := [.ref a, .int x1, u2]) (st' := [.int x1]) (by decide +kernel) (fun _ => rfl)).trans ?_
  refine (R_pure0 (ins := .aload_n 0) (len := 1) (loc' := [.ref a, .int x1, u2]) (st' := [.ref a, .int x1]) (by decide +kernel) (fun _ => rfl)).trans ?_
  refine (R_gr (i := 15) (ci := 7) (k := 0) (n := 1) (b := (a + 1)) (by decide +kernel) (by decide +kernel) (by decide) hS_a.1 hS_a.2.1).trans ?_
  refine (R_arraylength (kd := 103) (n := n_a) (by decide +kernel) hS_a.2.2 (by decide)).trans ?_
  refine (R_icmp_ge (off := 24) (t := 32) (by decide +kernel) (by decide +kernel)).trans (ite_congr rfl (fun c0 => ?_) (fun c0 => ?_))
  · refine (R_pure0 (ins := .aload_n 0) (len := 1) (loc' := [.ref a, .int x1, u2]) (st' := [.ref a]) (by decide +kernel) (fun _ => rfl)).trans ?_
    refine (R_gr (i := 15) (ci := 7) (k := 0) (n := 1) (b := (a + 1)) (by decide +kernel) (by decide +kernel) (by decide) hS_a.1 hS_a.2.1).trans ?_
    refine (R_pure0 (ins := .iload_n 1) (len := 1) (loc' := [.ref a, .int x1, u2]) (st' := [.int x1, .ref (a + 1)]) (by decide +kernel) (fun _ => rfl)).trans ?_
    refine (R_aaload (kd := 103) (n := n_a) (b := rb16) (by decide +kernel) hS_a.2.2 (by decide) (h1 c0) (h2 c0)).trans ?_
    refine (R_pure0 (ins := .astore_n 2) (len := 1) (loc' := [.ref a, .int x1, .ref rb16]) (st' := []) (by decide +kernel) (fun _ => rfl)).trans ?_
    refine (R_pure0 (ins := .aload_n 2) (len := 1) (loc' := [.ref a, .int x1, .ref rb16]) (st' := [.ref rb16]) (by decide +kernel) (fun _ => rfl)).trans ?_
    refine (R_ifnull_r (off := 7) (by decide +kernel)).trans ?_
    refine (R_pure0 (ins := .aload_n 2) (len := 1) (loc' := [.ref a, .int x1, .ref rb16]) (st' := [.ref rb16]) (by decide +kernel) (fun _ => rfl)).trans ?_
    refine (R_virt (i := 28) (f := 95) (kd := 0) (na := 0) (ml := 1) (ci := 8) (n := 2) (b := rb16) (As := []) (rest := []) (by decide +kernel) (by decide +kernel) (by decide) (by decide +kernel) rfl (by decide +kernel) hS_rb16.1 rfl (by decide +kernel) (Nat.le_of_ble_eq_true rfl)).trans ?_
    rfl
  · exact R_return (by decide +kernel) (by decide +kernel)
theorem s84_26g {u2 : Value} {L : Nat} {mi : Nat → Nat → Int32} {ml : Nat → Nat → Int64} {d : Nat} {Q : Option Value → xM → Prop} {x1 : Int32} {a : Nat} {n_a : Nat} (hS_a : isShelf L a n_a) : X 84 26 [.ref a, .int x1, u2] [] (SH L, mi, ml, MR) d Q =
    X 84 2 [.ref a, .int (x1 + 1), u2] [] (SH L, mi, ml, MR) d Q := by
  refine (R_iinc (k := 1) (n := 1) (x := x1) (v := (x1 + 1)) (loc' := [.ref a, .int (x1 + 1), u2]) (by decide +kernel) rfl rfl rfl).trans ?_
  refine (R_goto (off := (-27)) (t := 2) (by decide +kernel) (by decide +kernel)).trans ?_
  rfl
