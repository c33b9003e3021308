theorem s34 {L : Nat} {mi : Nat → Nat → Int32} {ml : Nat → Nat → Int64} {d : Nat} {Q : Option Value → xM → Prop} : Xm 34 [.ref 48] (SH L, mi, ml, MR) d Q =
    X 34 2 [.ref 48, .int 0, xmk] [] (SH L, mi, ml, MR) d Q := by
  rw [Xm_ent (n := 3) (loc := [.ref 48, xmk, xmk]) (by decide +kernel) rfl]
  refine (R_iconst (n := 0) (v := 0) (by decide +kernel) (by decide +kernel)).trans ?_
  refine (R_pure0 (ins := .istore_n 1) (len := 1) (loc' := [.ref 48, .int 0, xmk]) (st' := []) (by decide +kernel) (fun _ => rfl)).trans ?_
  rfl
theorem s34_2 {L : Nat} {mi : Nat → Nat → Int32} {ml : Nat → Nat → Int64} {d : Nat} {Q : Option Value → xM → Prop} {x1 : Int32} : X 34 2 [.ref 48, .int x1, xmk] [] (SH L, mi, ml, MR) (d + 1) Q =
    if (x1 < 6) then (Xm 15 [.ref 38, .int x1] (SH L, mi, ml, MR) d (fun v μ' => X 34 28 [.ref 48, .int x1, xmk] (v.toList ++ []) μ' (d + 1) Q)) else (Q none (SH L, mi, ml, MR)) := by
  refine (R_pure0 (ins := .iload_n 1) (len := 1) (loc' := [.ref 48, .int x1, xmk]) (st' := [.int x1]) (by decide +kernel) (fun _ => rfl)).trans ?_
  refine (R_pure0 (ins := .aload_n 0) (len := 1) (loc' := [.ref 48, .int x1, xmk]) (st' := [.ref 48, .int x1]) (by decide +kernel) (fun _ => rfl)).trans ?_
  refine (R_gr (i := 9) (ci := 3) (k := 1) (n := 3) (b := 49) (by decide +kernel) (by decide +kernel) (by decide) rfl (SH_ref (by decide +kernel))).trans ?_
  refine (R_arraylength (kd := 100) (n := 6) (by decide +kernel) rfl (by decide)).trans ?_
  show X 34 8 [.ref 48, .int x1, xmk] [.int 6, .int x1] (SH L, mi, ml, MR) _ _ = _
  refine (R_icmp_ge (off := 70) (t := 78) (by decide +kernel) (by decide +kernel)).trans (ite_congr rfl (fun c0 => ?_) (fun c0 => ?_))
  · refine (R_pure0 (ins := .iload_n 1) (len := 1) (loc' := [.ref 48, .int x1, xmk]) (st' := [.int x1]) (by decide +kernel) (fun _ => rfl)).trans ?_
    refine (R_pure0 (ins := .aload_n 0) (len := 1) (loc' := [.ref 48, .int x1, xmk]) (st' := [.ref 48, .int x1]) (by decide +kernel) (fun _ => rfl)).trans ?_
    refine (R_gr (i := 15) (ci := 3) (k := 2) (n := 3) (b := 50) (by decide +kernel) (by decide +kernel) (by decide) rfl (SH_ref (by decide +kernel))).trans ?_
    refine (R_arraylength (kd := 100) (n := 6) (by decide +kernel) rfl (by decide)).trans ?_
    show X 34 17 [.ref 48, .int x1, xmk] [.int 6, .int x1] (SH L, mi, ml, MR) _ _ = _
    refine (R_icmp_ge (off := 61) (t := 78) (by decide +kernel) (by decide +kernel)).trans ((if_pos c0).trans ?_)
    refine (R_pure0 (ins := .aload_n 0) (len := 1) (loc' := [.ref 48, .int x1, xmk]) (st' := [.ref 48]) (by decide +kernel) (fun _ => rfl)).trans ?_
    refine (R_gr (i := 18) (ci := 3) (k := 0) (n := 3) (b := 38) (by decide +kernel) (by decide +kernel) (by decide) rfl (SH_ref (by decide +kernel))).trans ?_
    refine (R_pure0 (ins := .iload_n 1) (len := 1) (loc' := [.ref 48, .int x1, xmk]) (st' := [.int x1, .ref 38]) (by decide +kernel) (fun _ => rfl)).trans ?_
    refine (R_virt (i := 22) (f := 15) (kd := 0) (na := 1) (ml := 2) (ci := 2) (n := 5) (b := 38) (As := [.int x1]) (rest := []) (by decide +kernel) (by decide +kernel) (by decide) (by decide +kernel) rfl (by decide +kernel) rfl rfl (by decide +kernel) (Nat.le_of_ble_eq_true rfl)).trans ?_
    rfl
  · exact R_return (by decide +kernel) (by decide +kernel)
theorem s34_28 {L : Nat} {mi : Nat → Nat → Int32} {ml : Nat → Nat → Int64} {d : Nat} {Q : Option Value → xM → Prop} {x1 : Int32} {ry : Nat} (hS_ry : (SH L)[ry]? = some (4, 7)) : X 34 28 [.ref 48, .int x1, xmk] [.ref ry] (SH L, mi, ml, MR) (d + 1) Q =
    Xm 18 [.ref 38] (SH L, mi, ml, MR) d (fun v μ' => X 34 50 [.ref 48, .int x1, .ref ry] (v.toList ++ [.ref ry, .int x1, .ref 49]) μ' (d + 1) Q) := by
  refine (R_pure0 (ins := .astore_n 2) (len := 1) (loc' := [.ref 48, .int x1, .ref ry]) (st' := []) (by decide +kernel) (fun _ => rfl)).trans ?_
  refine (R_pure0 (ins := .aload_n 0) (len := 1) (loc' := [.ref 48, .int x1, .ref ry]) (st' := [.ref 48]) (by decide +kernel) (fun _ => rfl)).trans ?_
  refine (R_gr (i := 9) (ci := 3) (k := 1) (n := 3) (b := 49) (by decide +kernel) (by decide +kernel) (by decide) rfl (SH_ref (by decide +kernel))).trans ?_
  refine (R_pure0 (ins := .iload_n 1) (len := 1) (loc' := [.ref 48, .int x1, .ref ry]) (st' := [.int x1, .ref 49]) (by decide +kernel) (fun _ => rfl)).trans ?_
  refine (R_pure0 (ins := .aload_n 2) (len := 1) (loc' := [.ref 48, .int x1, .ref ry]) (st' := [.ref ry, .int x1, .ref 49]) (by decide +kernel) (fun _ => rfl)).trans ?_
  refine (R_ifnonnull_r (off := 7) (t := 42) (by decide +kernel) (by decide +kernel)).trans ?_
  refine (R_pure0 (ins := .aload_n 2) (len := 1) (loc' := [.ref 48, .int x1, .ref ry]) (st' := [.ref ry, .int x1, .ref 49]) (by decide +kernel) (fun _ => rfl)).trans ?_
  refine (R_pure0 (ins := .aload_n 0) (len := 1) (loc' := [.ref 48, .int x1, .ref ry]) (st' := [.ref 48, .ref ry, .int x1, .ref 49]) (by decide +kernel) (fun _ => rfl)).trans ?_
  refine (R_gr (i := 18) (ci := 3) (k := 0) (n := 3) (b := 38) (by decide +kernel) (by decide +kernel) (by decide) rfl (SH_ref (by decide +kernel))).trans ?_
  refine (R_virt (i := 28) (f := 18) (kd := 0) (na := 0) (ml := 1) (ci := 2) (n := 5) (b := 38) (As := []) (rest := [.ref ry, .int x1, .ref 49]) (by decide +kernel) (by decide +kernel) (by decide) (by decide +kernel) rfl (by decide +kernel) rfl rfl (by decide +kernel) (Nat.le_of_ble_eq_true rfl)).trans ?_
  rfl
theorem s34_28n {L : Nat} {mi : Nat → Nat → Int32} {ml : Nat → Nat → Int64} {d : Nat} {Q : Option Value → xM → Prop} {x1 : Int32} (h1 : xin x1 6 = true) (h2 : xin x1 6 = true) : X 34 28 [.ref 48, .int x1, xmk] [.null] (SH L, mi, ml, MR) d Q =
    X 34 2 [.ref 48, .int (x1 + 1), .null] [] (SH L, (xw (xw mi 49 x1.toNatClampNeg 0) 50 x1.toNatClampNeg 0), ml, MR) d Q := by
  refine (R_pure0 (ins := .astore_n 2) (len := 1) (loc' := [.ref 48, .int x1, .null]) (st' := []) (by decide +kernel) (fun _ => rfl)).trans ?_
  refine (R_pure0 (ins := .aload_n 0) (len := 1) (loc' := [.ref 48, .int x1, .null]) (st' := [.ref 48]) (by decide +kernel) (fun _ => rfl)).trans ?_
  refine (R_gr (i := 9) (ci := 3) (k := 1) (n := 3) (b := 49) (by decide +kernel) (by decide +kernel) (by decide) rfl (SH_ref (by decide +kernel))).trans ?_
  refine (R_pure0 (ins := .iload_n 1) (len := 1) (loc' := [.ref 48, .int x1, .null]) (st' := [.int x1, .ref 49]) (by decide +kernel) (fun _ => rfl)).trans ?_
  refine (R_pure0 (ins := .aload_n 2) (len := 1) (loc' := [.ref 48, .int x1, .null]) (st' := [.null, .int x1, .ref 49]) (by decide +kernel) (fun _ => rfl)).trans ?_
  refine (R_ifnonnull_n (off := 7) (by decide +kernel)).trans ?_
  refine (R_iconst (n := 0) (v := 0) (by decide +kernel) (by decide +kernel)).trans ?_
  refine (R_goto (off := 14) (t := 53) (by decide +kernel) (by decide +kernel)).trans ?_
  refine (R_iastore (n := 6) (by decide +kernel) rfl (h1)).trans ?_
  refine (R_pure0 (ins := .aload_n 0) (len := 1) (loc' := [.ref 48, .int x1, .null]) (st' := [.ref 48]) (by decide +kernel) (fun _ => rfl)).trans ?_
  refine (R_gr (i := 15) (ci := 3) (k := 2) (n := 3) (b := 50) (by decide +kernel) (by decide +kernel) (by decide) rfl (SH_ref (by decide +kernel))).trans ?_
  refine (R_pure0 (ins := .iload_n 1) (len := 1) (loc' := [.ref 48, .int x1, .null]) (st' := [.int x1, .ref 50]) (by decide +kernel) (fun _ => rfl)).trans ?_
  refine (R_pure0 (ins := .aload_n 2) (len := 1) (loc' := [.ref 48, .int x1, .null]) (st' := [.null, .int x1, .ref 50]) (by decide +kernel) (fun _ => rfl)).trans ?_
  refine (R_ifnonnull_n (off := 7) (by decide +kernel)).trans ?_
  refine (R_iconst (n := 0) (v := 0) (by decide +kernel) (by decide +kernel)).trans ?_
  refine (R_goto (off := 7) (t := 71) (by decide +kernel) (by decide +kernel)).trans ?_
  refine (R_iastore (n := 6) (by decide +kernel) rfl (h2)).trans ?_
  refine (R_iinc (k := 1) (n := 1) (x := x1) (v := (x1 + 1)) (loc' := [.ref 48, .int (x1 + 1), .null]) (by decide +kernel) rfl rfl rfl).trans ?_
  refine (R_goto (off := (-73)) (t := 2) (by decide +kernel) (by decide +kernel)).trans ?_
  rfl
theorem s34_50 {L : Nat} {mi : Nat → Nat → Int32} {ml : Nat → Nat → Int64} {d : Nat} {Q : Option Value → xM → Prop} {x1 y z1 : Int32} {r2 : Nat} (hS_r2 : (SH L)[r2]? = some (4, 7)) : X 34 50 [.ref 48, .int x1, .ref r2] [.int y, .ref r2, .int z1, .ref 49] (SH L, mi, ml, MR) (d + 1) Q =
    Xm 57 [.ref r2, .int y] (SH L, mi, ml, MR) d (fun v μ' => X 34 53 [.ref 48, .int x1, .ref r2] (v.toList ++ [.int z1, .ref 49]) μ' (d + 1) Q) := by
  refine (R_virt (i := 32) (f := 57) (kd := 0) (na := 1) (ml := 2) (ci := 4) (n := 7) (b := r2) (As := [.int y]) (rest := [.int z1, .ref 49]) (by decide +kernel) (by decide +kernel) (by decide) (by decide +kernel) rfl (by decide +kernel) hS_r2 rfl (by decide +kernel) (Nat.le_of_ble_eq_true rfl)).trans ?_
  rfl
theorem s34_2v2 {L : Nat} {mi : Nat → Nat → Int32} {ml : Nat → Nat → Int64} {d : Nat} {Q : Option Value → xM → Prop} {x1 : Int32} : X 34 2 [.ref 48, .int x1, .null] [] (SH L, mi, ml, MR) (d + 1) Q =
    if (x1 < 6) then (Xm 15 [.ref 38, .int x1] (SH L, mi, ml, MR) d (fun v μ' => X 34 28 [.ref 48, .int x1, .null] (v.toList ++ []) μ' (d + 1) Q)) else (Q none (SH L, mi, ml, MR)) := by
  refine (R_pure0 (ins := .iload_n 1) (len := 1) (loc' := [.ref 48, .int x1, .null]) (st' := [.int x1]) (by decide +kernel) (fun _ => rfl)).trans ?_
  refine (R_pure0 (ins := .aload_n 0) (len := 1) (loc' := [.ref 48, .int x1, .null]) (st' := [.ref 48, .int x1]) (by decide +kernel) (fun _ => rfl)).trans ?_
  refine (R_gr (i := 9) (ci := 3) (k := 1) (n := 3) (b := 49) (by decide +kernel) (by decide +kernel) (by decide) rfl (SH_ref (by decide +kernel))).trans ?_
  refine (R_arraylength (kd := 100) (n := 6) (by decide +kernel) rfl (by decide)).trans ?_
  show X 34 8 [.ref 48, .int x1, .null] [.int 6, .int x1] (SH L, mi, ml, MR) _ _ = _
  refine (R_icmp_ge (off := 70) (t := 78) (by decide +kernel) (by decide +kernel)).trans (ite_congr rfl (fun c0 => ?_) (fun c0 => ?_))
  · refine (R_pure0 (ins := .iload_n 1) (len := 1) (loc' := [.ref 48, .int x1, .null]) (st' := [.int x1]) (by decide +kernel) (fun _ => rfl)).trans ?_
    refine (R_pure0 (ins := .aload_n 0) (len := 1) (loc' := [.ref 48, .int x1, .null]) (st' := [.ref 48, .int x1]) (by decide +kernel) (fun _ => rfl)).trans ?_
    refine (R_gr (i := 15) (ci := 3) (k := 2) (n := 3) (b := 50) (by decide +kernel) (by decide +kernel) (by decide) rfl (SH_ref (by decide +kernel))).trans ?_
    refine (R_arraylength (kd := 100) (n := 6) (by decide +kernel) rfl (by decide)).trans ?_
    show X 34 17 [.ref 48, .int x1, .null] [.int 6, .int x1] (SH L, mi, ml, MR) _ _ = _
    refine (R_icmp_ge (off := 61) (t := 78) (by decide +kernel) (by decide +kernel)).trans ((if_pos c0).trans ?_)
    refine (R_pure0 (ins := .aload_n 0) (len := 1) (loc' := [.ref 48, .int x1, .null]) (st' := [.ref 48]) (by decide +kernel) (fun _ => rfl)).trans ?_
    refine (R_gr (i := 18) (ci := 3) (k := 0) (n := 3) (b := 38) (by decide +kernel) (by decide +kernel) (by decide) rfl (SH_ref (by decide +kernel))).trans ?_
    refine (R_pure0 (ins := .iload_n 1) (len := 1) (loc' := [.ref 48, .int x1, .null]) (st' := [.int x1, .ref 38]) (by decide +kernel) (fun _ => rfl)).trans ?_
    refine (R_virt (i := 22) (f := 15) (kd := 0) (na := 1) (ml := 2) (ci := 2) (n := 5) (b := 38) (As := [.int x1]) (rest := []) (by decide +kernel) (by decide +kernel) (by decide) (by decide +kernel) rfl (by decide +kernel) rfl rfl (by decide +kernel) (Nat.le_of_ble_eq_true rfl)).trans ?_
    rfl
  · exact R_return (by decide +kernel) (by decide +kernel)
theorem s34_53 {L : Nat} {mi : Nat → Nat → Int32} {ml : Nat → Nat → Int64} {d : Nat} {Q : Option Value → xM → Prop} {x1 y z0 : Int32} {r2 : Nat} (hS_r2 : (SH L)[r2]? = some (4, 7)) (h1 : xin z0 6 = true) (h2 : xin x1 6 = true) : X 34 53 [.ref 48, .int x1, .ref r2] [.int y, .int z0, .ref 49] (SH L, mi, ml, MR) d Q =
    X 34 2 [.ref 48, .int (x1 + 1), .ref r2] [] (SH L, (xw (xw mi 49 z0.toNatClampNeg y) 50 x1.toNatClampNeg ((xw mi 49 z0.toNatClampNeg y) r2 5)), ml, MR) d Q := by
  refine (R_iastore (n := 6) (by decide +kernel) rfl (h1)).trans ?_
  refine (R_pure0 (ins := .aload_n 0) (len := 1) (loc' := [.ref 48, .int x1, .ref r2]) (st' := [.ref 48]) (by decide +kernel) (fun _ => rfl)).trans ?_
  refine (R_gr (i := 15) (ci := 3) (k := 2) (n := 3) (b := 50) (by decide +kernel) (by decide +kernel) (by decide) rfl (SH_ref (by decide +kernel))).trans ?_
  refine (R_pure0 (ins := .iload_n 1) (len := 1) (loc' := [.ref 48, .int x1, .ref r2]) (st' := [.int x1, .ref 50]) (by decide +kernel) (fun _ => rfl)).trans ?_
  refine (R_pure0 (ins := .aload_n 2) (len := 1) (loc' := [.ref 48, .int x1, .ref r2]) (st' := [.ref r2, .int x1, .ref 50]) (by decide +kernel) (fun _ => rfl)).trans ?_
  refine (R_ifnonnull_r (off := 7) (t := 67) (by decide +kernel) (by decide +kernel)).trans ?_
  refine (R_pure0 (ins := .aload_n 2) (len := 1) (loc' := [.ref 48, .int x1, .ref r2]) (st' := [.ref r2, .int x1, .ref 50]) (by decide +kernel) (fun _ => rfl)).trans ?_
  refine (R_gi (i := 38) (ci := 4) (k := 5) (n := 7) (by decide +kernel) (by decide +kernel) (by decide) hS_r2).trans ?_
  refine (R_iastore (n := 6) (by decide +kernel) rfl (h2)).trans ?_
  refine (R_iinc (k := 1) (n := 1) (x := x1) (v := (x1 + 1)) (loc' := [.ref 48, .int (x1 + 1), .ref r2]) (by decide +kernel) rfl rfl rfl).trans ?_
  refine (R_goto (off := (-73)) (t := 2) (by decide +kernel) (by decide +kernel)).trans ?_
  rfl
theorem s34_28v2 {L : Nat} {mi : Nat → Nat → Int32} {ml : Nat → Nat → Int64} {d : Nat} {Q : Option Value → xM → Prop} {x1 : Int32} {ry : Nat} (hS_ry : (SH L)[ry]? = some (4, 7)) : X 34 28 [.ref 48, .int x1, .null] [.ref ry] (SH L, mi, ml, MR) (d + 1) Q =
    Xm 18 [.ref 38] (SH L, mi, ml, MR) d (fun v μ' => X 34 50 [.ref 48, .int x1, .ref ry] (v.toList ++ [.ref ry, .int x1, .ref 49]) μ' (d + 1) Q) := by
  refine (R_pure0 (ins := .astore_n 2) (len := 1) (loc' := [.ref 48, .int x1, .ref ry]) (st' := []) (by decide +kernel) (fun _ => rfl)).trans ?_
  refine (R_pure0 (ins := .aload_n 0) (len := 1) (loc' := [.ref 48, .int x1, .ref ry]) (st' := [.ref 48]) (by decide +kernel) (fun _ => rfl)).trans ?_
  refine (R_gr (i := 9) (ci := 3) (k := 1) (n := 3) (b := 49) (by decide +kernel) (by decide +kernel) (by decide) rfl (SH_ref (by decide +kernel))).trans ?_
  refine (R_pure0 (ins := .iload_n 1) (len := 1) (loc' := [.ref 48, .int x1, .ref ry]) (st' := [.int x1, .ref 49]) (by decide +kernel) (fun _ => rfl)).trans ?_
  refine (R_pure0 (ins := .aload_n 2) (len := 1) (loc' := [.ref 48, .int x1, .ref ry]) (st' := [.ref ry, .int x1, .ref 49]) (by decide +kernel) (fun _ => rfl)).trans ?_
  refine (R_ifnonnull_r (off := 7) (t := 42) (by decide +kernel) (by decide +kernel)).trans ?_
  refine (R_pure0 (ins := .aload_n 2) (len := 1) (loc' := [.ref 48, .int x1, .ref ry]) (st' := [.ref ry, .int x1, .ref 49]) (by decide +kernel) (fun _ => rfl)).trans ?_
  refine (R_pure0 (ins := .aload_n 0) (len := 1) (loc' := [.ref 48, .int x1, .ref ry]) (st' := [.ref 48, .ref ry, .int x1, .ref 49]) (by decide +kernel) (fun _ => rfl)).trans ?_
  refine (R_gr (i := 18) (ci := 3) (k := 0) (n := 3) (b := 38) (by decide +kernel) (by decide +kernel) (by decide) rfl (SH_ref (by decide +kernel))).trans ?_
  refine (R_virt (i := 28) (f := 18) (kd := 0) (na := 0) (ml := 1) (ci := 2) (n := 5) (b := 38) (As := []) (rest := [.ref ry, .int x1, .ref 49]) (by decide +kernel) (by decide +kernel) (by decide) (by decide +kernel) rfl (by decide +kernel) rfl rfl (by decide +kernel) (Nat.le_of_ble_eq_true rfl)).trans ?_
  rfl
theorem s34_28nv2 {L : Nat} {mi : Nat → Nat → Int32} {ml : Nat → Nat → Int64} {d : Nat} {Q : Option Value → xM → Prop} {x1 : Int32} (h1 : xin x1 6 = true) (h2 : xin x1 6 = true) : X 34 28 [.ref 48, .int x1, .null] [.null] (SH L, mi, ml, MR) d Q =
    X 34 2 [.ref 48, .int (x1 + 1), .null] [] (SH L, (xw (xw mi 49 x1.toNatClampNeg 0) 50 x1.toNatClampNeg 0), ml, MR) d Q := by
  refine (R_pure0 (ins := .astore_n 2) (len := 1) (loc' := [.ref 48, .int x1, .null]) (st' := []) (by decide +kernel) (fun _ => rfl)).trans ?_
  refine (R_pure0 (ins := .aload_n 0) (len := 1) (loc' := [.ref 48, .int x1, .null]) (st' := [.ref 48]) (by decide +kernel) (fun _ => rfl)).trans ?_
  refine (R_gr (i := 9) (ci := 3) (k := 1) (n := 3) (b := 49) (by decide +kernel) (by decide +kernel) (by decide) rfl (SH_ref (by decide +kernel))).trans ?_
  refine (R_pure0 (ins := .iload_n 1) (len := 1) (loc' := [.ref 48, .int x1, .null]) (st' := [.int x1, .ref 49]) (by decide +kernel) (fun _ => rfl)).trans ?_
  refine (R_pure0 (ins := .aload_n 2) (len := 1) (loc' := [.ref 48, .int x1, .null]) (st' := [.null, .int x1, .ref 49]) (by decide +kernel) (fun _ => rfl)).trans ?_
  refine (R_ifnonnull_n (off := 7) (by decide +kernel)).trans ?_
  refine (R_iconst (n := 0) (v := 0) (by decide +kernel) (by decide +kernel)).trans ?_
  refine (R_goto (off := 14) (t := 53) (by decide +kernel) (by decide +kernel)).trans ?_
  refine (R_iastore (n := 6) (by decide +kernel) rfl (h1)).trans ?_
  refine (R_pure0 (ins := .aload_n 0) (len := 1) (loc' := [.ref 48, .int x1, .null]) (st' := [.ref 48]) (by decide +kernel) (fun _ => rfl)).trans ?_
  refine (R_gr (i := 15) (ci := 3) (k := 2) (n := 3) (b := 50) (by decide +kernel) (by decide +kernel) (by decide) rfl (SH_ref (by decide +kernel))).trans ?_
  refine (R_pure0 (ins := .iload_n 1) (len := 1) (loc' := [.ref 48, .int x1, .null]) (st' := [.int x1, .ref 50]) (by decide +kernel) (fun _ => rfl)).trans ?_
  refine (R_pure0 (ins := .aload_n 2) (len := 1) (loc' := [.ref 48, .int x1, .null]) (st' := [.null, .int x1, .ref 50]) (by decide +kernel) (fun _ => rfl)).trans ?_
  refine (R_ifnonnull_n (off := 7) (by decide +kernel)).trans ?_
  refine (R_iconst (n := 0) (v := 0) (by decide +kernel) (by decide +kernel)).trans ?_
  refine (R_goto (off := 7) (t := 71) (by decide +kernel) (by decide +kernel)).trans ?_
  refine (R_iastore (n := 6) (by decide +kernel) rfl (h2)).trans ?_
  refine (R_iinc (k := 1) (n := 1) (x := x1) (v := (x1 + 1)) (loc' := [.ref 48, .int (x1 + 1), .null]) (by decide +kernel) rfl rfl rfl).trans ?_
  refine (R_goto (off := (-73)) (t := 2) (by decide +kernel) (by decide +kernel)).trans ?_
  rfl
theorem s34_2v3 {L : Nat} {mi : Nat → Nat → Int32} {ml : Nat → Nat → Int64} {d : Nat} {Q : Option Value → xM → Prop} {x1 : Int32} {r2 : Nat} (hS_r2 : (SH L)[r2]? = some (4, 7)) : X 34 2 [.ref 48, .int x1, .ref r2] [] (SH L, mi, ml, MR) (d + 1) Q =
    if (x1 < 6) then (Xm 15 [.ref 38, .int x1] (SH L, mi, ml, MR) d (fun v μ' => X 34 28 [.ref 48, .int x1, .ref r2] (v.toList ++ []) μ' (d + 1) Q)) else (Q none (SH L, mi, ml, MR)) := by
  refine (R_pure0 (ins := .iload_n 1) (len := 1) (loc' := [.ref 48, .int x1, .ref r2]) (st' := [.int x1]) (by decide +kernel) (fun _ => rfl)).trans ?_
  refine (R_pure0 (ins := .aload_n 0) (len := 1) (loc' := [.ref 48, .int x1, .ref r2]) (st' := [.ref 48, .int x1]) (by decide +kernel) (fun _ => rfl)).trans ?_
  refine (R_gr (i := 9) (ci := 3) (k := 1) (n := 3) (b := 49) (by decide +kernel) (by decide +kernel) (by decide) rfl (SH_ref (by decide +kernel))).trans ?_
  refine (R_arraylength (kd := 100) (n := 6) (by decide +kernel) rfl (by decide)).trans ?_
  show X 34 8 [.ref 48, .int x1, .ref r2] [.int 6, .int x1] (SH L, mi, ml, MR) _ _ = _
  refine (R_icmp_ge (off := 70) (t := 78) (by decide +kernel) (by decide +kernel)).trans (ite_congr rfl (fun c0 => ?_) (fun c0 => ?_))
  · refine (R_pure0 (ins := .iload_n 1) (len := 1) (loc' := [.ref 48, .int x1, .ref r2]) (st' := [.int x1]) (by decide +kernel) (fun _ => rfl)).trans ?_
    refine (R_pure0 (ins := .aload_n 0) (len := 1) (loc' := [.ref 48, .int x1, .ref r2]) (st' := [.ref 48, .int x1]) (by decide +kernel) (fun _ => rfl)).trans ?_
    refine (R_gr (i := 15) (ci := 3) (k := 2) (n := 3) (b := 50) (by decide +kernel) (by decide +kernel) (by decide) rfl (SH_ref (by decide +kernel))).trans ?_
    refine (R_arraylength (kd := 100) (n := 6) (by decide +kernel) rfl (by decide)).trans ?_
    show X 34 17 [.ref 48, .int x1, .ref r2] [.int 6, .int x1] (SH L, mi, ml, MR) _ _ = _
    refine (R_icmp_ge (off := 61) (t := 78) (by decide +kernel) (by decide +kernel)).trans ((if_pos c0).trans ?_)
    refine (R_pure0 (ins := .aload_n 0) (len := 1) (loc' := [.ref 48, .int x1, .ref r2]) (st' := [.ref 48]) (by decide +kernel) (fun _ => rfl)).trans ?_
    refine (R_gr (i := 18) (ci := 3) (k := 0) (n := 3) (b := 38) (by decide +kernel) (by decide +kernel) (by decide) rfl (SH_ref (by decide +kernel))).trans ?_
    refine (R_pure0 (ins := .iload_n 1) (len := 1) (loc' := [.ref 48, .int x1, .ref r2]) (st' := [.int x1, .ref 38]) (by decide +kernel) (fun _ => rfl)).trans ?_
    refine (R_virt (i := 22) (f := 15) (kd := 0) (na := 1) (ml := 2) (ci := 2) (n := 5) (b := 38) (As := [.int x1]) (rest := []) (by decide +kernel) (by decide +kernel) (by decide) (by decide +kernel) rfl (by decide +kernel) rfl rfl (by decide +kernel) (Nat.le_of_ble_eq_true rfl)).trans ?_
    rfl
  · exact R_return (by decide +kernel) (by decide +kernel)
theorem s34_28v3 {L : Nat} {mi : Nat → Nat → Int32} {ml : Nat → Nat → Int64} {d : Nat} {Q : Option Value → xM → Prop} {x1 : Int32} {r2 ry : Nat} (hS_r2 : (SH L)[r2]? = some (4, 7)) (hS_ry : (SH L)[ry]? = some (4, 7)) : X 34 28 [.ref 48, .int x1, .ref r2] [.ref ry] (SH L, mi, ml, MR) (d + 1) Q =
    Xm 18 [.ref 38] (SH L, mi, ml, MR) d (fun v μ' => X 34 50 [.ref 48, .int x1, .ref ry] (v.toList ++ [.ref ry, .int x1, .ref 49]) μ' (d + 1) Q) := by
  refine (R_pure0 (ins := .astore_n 2) (len := 1) (loc' := [.ref 48, .int x1, .ref ry]) (st' := []) (by decide +kernel) (fun _ => rfl)).trans ?_
  refine (R_pure0 (ins := .aload_n 0) (len := 1) (loc' := [.ref 48, .int x1, .ref ry]) (st' := [.ref 48]) (by decide +kernel) (fun _ => rfl)).trans ?_
  refine (R_gr (i := 9) (ci := 3) (k := 1) (n := 3) (b := 49) (by decide +kernel) (by decide +kernel) (by decide) rfl (SH_ref (by decide +kernel))).trans ?_
  refine (R_pure0 (ins := .iload_n 1) (len := 1) (loc' := [.ref 48, .int x1, .ref ry]) (st' := [.int x1, .ref 49]) (by decide +kernel) (fun _ => rfl)).trans ?_
  refine (R_pure0 (ins := .aload_n 2) (len := 1) (loc' := [.ref 48, .int x1, .ref ry]) (st' := [.ref ry, .int x1, .ref 49]) (by decide +kernel) (fun _ => rfl)).trans ?_
  refine (R_ifnonnull_r (off := 7) (t := 42) (by decide +kernel) (by decide +kernel)).trans ?_
  refine (R_pure0 (ins := .aload_n 2) (len := 1) (loc' := [.ref 48, .int x1, .ref ry]) (st' := [.ref ry, .int x1, .ref 49]) (by decide +kernel) (fun _ => rfl)).trans ?_
  refine (R_pure0 (ins := .aload_n 0) (len := 1) (loc' := [.ref 48, .int x1, .ref ry]) (st' := [.ref 48, .ref ry, .int x1, .ref 49]) (by decide +kernel) (fun _ => rfl)).trans ?_
  refine (R_gr (i := 18) (ci := 3) (k := 0) (n := 3) (b := 38) (by decide +kernel) (by decide +kernel) (by decide) rfl (SH_ref (by decide +kernel))).trans ?_
  refine (R_virt (i := 28) (f := 18) (kd := 0) (na := 0) (ml := 1) (ci := 2) (n := 5) (b := 38) (As := []) (rest := [.ref ry, .int x1, .ref 49]) (by decide +kernel) (by decide +kernel) (by decide) (by decide +kernel) rfl (by decide +kernel) rfl rfl (by decide +kernel) (Nat.le_of_ble_eq_true rfl)).trans ?_
  rfl
theorem s34_28nv3 {L : Nat} {mi : Nat → Nat → Int32} {ml : Nat → Nat → Int64} {d : Nat} {Q : Option Value → xM → Prop} {x1 : Int32} {r2 : Nat} (hS_r2 : (SH L)[r2]? = some (4, 7)) (h1 : xin x1 6 = true) (h2 : xin x1 6 = true) : X 34 28 [.ref 48, .int x1, .ref r2] [.null] (SH L, mi, ml, MR) d Q =
    X 34 2 [.ref 48, .int (x1 + 1), .null] [] (SH L, (xw (xw mi 49 x1.toNatClampNeg 0) 50 x1.toNatClampNeg 0), ml, MR) d Q := by
  refine (R_pure0 (ins := .astore_n 2) (len := 1) (loc' := [.ref 48, .int x1, .null]) (st' := []) (by decide +kernel) (fun _ => rfl)).trans ?_
  refine (R_pure0 (ins := .aload_n 0) (len := 1) (loc' := [.ref 48, .int x1, .null]) (st' := [.ref 48]) (by decide +kernel) (fun _ => rfl)).trans ?_
  refine (R_gr (i := 9) (ci := 3) (k := 1) (n := 3) (b := 49) (by decide +kernel) (by decide +kernel) (by decide) rfl (SH_ref (by decide +kernel))).trans ?_
  refine (R_pure0 (ins := .iload_n 1) (len := 1) (loc' := [.ref 48, .int x1, .null]) (st' := [.int x1, .ref 49]) (by decide +kernel) (fun _ => rfl)).trans ?_
  refine (R_pure0 (ins := .aload_n 2) (len := 1) (loc' := [.ref 48, .int x1, .null]) (st' := [.null, .int x1, .ref 49]) (by decide +kernel) (fun _ => rfl)).trans ?_
  refine (R_ifnonnull_n (off := 7) (by decide +kernel)).trans ?_
  refine (R_iconst (n := 0) (v := 0) (by decide +kernel) (by decide +kernel)).trans ?_
  refine (R_goto (off := 14) (t := 53) (by decide +kernel) (by decide +kernel)).trans ?_
  refine (R_iastore (n := 6) (by decide +kernel) rfl (h1)).trans ?_
  refine (R_pure0 (ins := .aload_n 0) (len := 1) (loc' := [.ref 48, .int x1, .null]) (st' := [.ref 48]) (by decide +kernel) (fun _ => rfl)).trans ?_
  refine (R_gr (i := 15) (ci := 3) (k := 2) (n := 3) (b := 50) (by decide +kernel) (by decide +kernel) (by decide) rfl (SH_ref (by decide +kernel))).trans ?_
  refine (R_pure0 (ins := .iload_n 1) (len := 1) (loc' := [.ref 48, .int x1, .null]) (st' := [.int x1, .ref 50]) (by decide +kernel) (fun _ => rfl)).trans ?_
  refine (R_pure0 (ins := .aload_n 2) (len := 1) (loc' := [.ref 48, .int x1, .null]) (st' := [.null, .int x1, .ref 50]) (by decide +kernel) (fun _ => rfl)).trans ?_
  refine (R_ifnonnull_n (off := 7) (by decide +kernel)).trans ?_
  refine (R_iconst (n := 0) (v := 0) (by decide +kernel) (by decide +kernel)).trans ?_
  refine (R_goto (off := 7) (t := 71) (by decide +kernel) (by decide +kernel)).trans ?_
  refine (R_iastore (n := 6) (by decide +kernel) rfl (h2)).trans ?_
  refine (R_iinc (k := 1) (n := 1) (x := x1) (v := (x1 + 1)) (loc' := [.ref 48, .int (x1 + 1), .null]) (by decide +kernel) rfl rfl rfl).trans ?_
  refine (R_goto (off := (-73)) (t := 2) (by decide +kernel) (by decide +kernel)).trans ?_
  rfl
theorem s35 {L : Nat} {mi : Nat → Nat → Int32} {ml : Nat → Nat → Int64} {d : Nat} {Q : Option Value → xM → Prop} {x1 : Int32} (h1 : ¬ (x1 < 0) → (x1 < 6) → xin x1 6 = true) : Xm 35 [.ref 48, .int x1] (SH L, mi, ml, MR) d Q =
    if (x1 < 0) then (Q (some (.int 0)) (SH L, mi, ml, MR)) else (if (x1 < 6) then (if ((0 : Int32) < (mi 49 x1.toNatClampNeg)) then (Q (some (.int 1)) (SH L, mi, ml, MR)) else (Q (some (.int 0)) (SH L, mi, ml, MR))) else (Q (some (.int 0)) (SH L, mi, ml, MR))) := by
  rw [Xm_ent (n := 2) (loc := [.ref 48, .int x1]) (by decide +kernel) rfl]
  refine (R_pure0 (ins := .iload_n 1) (len := 1) (loc' := [.ref 48, .int x1]) (st' := [.int x1]) (by decide +kernel) (fun _ => rfl)).trans ?_
  refine (R_if_lt (off := 25) (t := 26) (by decide +kernel) (by decide +kernel)).trans (ite_congr rfl (fun c0 => ?_) (fun c0 => ?_))
  · refine (R_iconst (n := 0) (v := 0) (by decide +kernel) (by decide +kernel)).trans ?_
    exact R_zreturn (by decide +kernel) (by decide +kernel) (by decide)
  · refine (R_pure0 (ins := .iload_n 1) (len := 1) (loc' := [.ref 48, .int x1]) (st' := [.int x1]) (by decide +kernel) (fun _ => rfl)).trans ?_
    refine (R_pure0 (ins := .aload_n 0) (len := 1) (loc' := [.ref 48, .int x1]) (st' := [.ref 48, .int x1]) (by decide +kernel) (fun _ => rfl)).trans ?_
    refine (R_gr (i := 9) (ci := 3) (k := 1) (n := 3) (b := 49) (by decide +kernel) (by decide +kernel) (by decide) rfl (SH_ref (by decide +kernel))).trans ?_
    refine (R_arraylength (kd := 100) (n := 6) (by decide +kernel) rfl (by decide)).trans ?_
    show X 35 10 [.ref 48, .int x1] [.int 6, .int x1] (SH L, mi, ml, MR) _ _ = _
    refine (R_icmp_ge (off := 16) (t := 26) (by decide +kernel) (by decide +kernel)).trans (ite_congr rfl (fun c1 => ?_) (fun c1 => ?_))
    · refine (R_pure0 (ins := .aload_n 0) (len := 1) (loc' := [.ref 48, .int x1]) (st' := [.ref 48]) (by decide +kernel) (fun _ => rfl)).trans ?_
      refine (R_gr (i := 9) (ci := 3) (k := 1) (n := 3) (b := 49) (by decide +kernel) (by decide +kernel) (by decide) rfl (SH_ref (by decide +kernel))).trans ?_
      refine (R_pure0 (ins := .iload_n 1) (len := 1) (loc' := [.ref 48, .int x1]) (st' := [.int x1, .ref 49]) (by decide +kernel) (fun _ => rfl)).trans ?_
      refine (R_iaload (kd := 100) (n := 6) (by decide +kernel) rfl (by decide) (h1 c0 c1)).trans ?_
      refine (R_if_le (off := 7) (t := 26) (by decide +kernel) (by decide +kernel)).trans (ite_congr rfl (fun c2 => ?_) (fun c2 => ?_))
      · refine (R_iconst (n := 1) (v := 1) (by decide +kernel) (by decide +kernel)).trans ?_
        refine (R_goto (off := 4) (t := 27) (by decide +kernel) (by decide +kernel)).trans ?_
        exact R_zreturn (by decide +kernel) (by decide +kernel) (by decide)
      · refine (R_iconst (n := 0) (v := 0) (by decide +kernel) (by decide +kernel)).trans ?_
        exact R_zreturn (by decide +kernel) (by decide +kernel) (by decide)
    · refine (R_iconst (n := 0) (v := 0) (by decide +kernel) (by decide +kernel)).trans ?_
      exact R_zreturn (by decide +kernel) (by decide +kernel) (by decide)
theorem s36 {L : Nat} {mi : Nat → Nat → Int32} {ml : Nat → Nat → Int64} {d : Nat} {Q : Option Value → xM → Prop} {x1 : Int32} : Xm 36 [.ref 48, .int x1] (SH L, mi, ml, MR) (d + 1) Q =
    Xm 15 [.ref 38, .int x1] (SH L, mi, ml, MR) d (fun v μ' => X 36 8 [.ref 48, .int x1, xmk] (v.toList ++ []) μ' (d + 1) Q) := by
  rw [Xm_ent (n := 3) (loc := [.ref 48, .int x1, xmk]) (by decide +kernel) rfl]
  refine (R_pure0 (ins := .aload_n 0) (len := 1) (loc' := [.ref 48, .int x1, xmk]) (st' := [.ref 48]) (by decide +kernel) (fun _ => rfl)).trans ?_
  refine (R_gr (i := 18) (ci := 3) (k := 0) (n := 3) (b := 38) (by decide +kernel) (by decide +kernel) (by decide) rfl (SH_ref (by decide +kernel))).trans ?_
  refine (R_pure0 (ins := .iload_n 1) (len := 1) (loc' := [.ref 48, .int x1, xmk]) (st' := [.int x1, .ref 38]) (by decide +kernel) (fun _ => rfl)).trans ?_
  refine (R_virt (i := 22) (f := 15) (kd := 0) (na := 1) (ml := 2) (ci := 2) (n := 5) (b := 38) (As := [.int x1]) (rest := []) (by decide +kernel) (by decide +kernel) (by decide) (by decide +kernel) rfl (by decide +kernel) rfl rfl (by decide +kernel) (Nat.le_of_ble_eq_true rfl)).trans ?_
  rfl
theorem s36_8 {L : Nat} {mi : Nat → Nat → Int32} {ml : Nat → Nat → Int64} {d : Nat} {Q : Option Value → xM → Prop} {x1 : Int32} {ry : Nat} (hS_ry : (SH L)[ry]? = some (4, 7)) (h1 : (x1 < 6) → xin x1 6 = true) : X 36 8 [.ref 48, .int x1, xmk] [.ref ry] (SH L, mi, ml, MR) (d + 1) Q =
    if (x1 < 6) then (Xm 53 [.ref ry, .int (mi 50 x1.toNatClampNeg)] (SH L, mi, ml, MR) d (fun v μ' => X 36 37 [.ref 48, .int x1, .ref ry] (v.toList ++ []) μ' (d + 1) Q)) else (Q (some (.int 10)) (SH L, mi, ml, MR)) := by
  refine (R_pure0 (ins := .astore_n 2) (len := 1) (loc' := [.ref 48, .int x1, .ref ry]) (st' := []) (by decide +kernel) (fun _ => rfl)).trans ?_
  refine (R_pure0 (ins := .aload_n 2) (len := 1) (loc' := [.ref 48, .int x1, .ref ry]) (st' := [.ref ry]) (by decide +kernel) (fun _ => rfl)).trans ?_
  refine (R_ifnull_r (off := 12) (by decide +kernel)).trans ?_
  refine (R_pure0 (ins := .iload_n 1) (len := 1) (loc' := [.ref 48, .int x1, .ref ry]) (st' := [.int x1]) (by decide +kernel) (fun _ => rfl)).trans ?_
  refine (R_pure0 (ins := .aload_n 0) (len := 1) (loc' := [.ref 48, .int x1, .ref ry]) (st' := [.ref 48, .int x1]) (by decide +kernel) (fun _ => rfl)).trans ?_
  refine (R_gr (i := 15) (ci := 3) (k := 2) (n := 3) (b := 50) (by decide +kernel) (by decide +kernel) (by decide) rfl (SH_ref (by decide +kernel))).trans ?_
  refine (R_arraylength (kd := 100) (n := 6) (by decide +kernel) rfl (by decide)).trans ?_
  show X 36 19 [.ref 48, .int x1, .ref ry] [.int 6, .int x1] (SH L, mi, ml, MR) _ _ = _
  refine (R_icmp_lt (off := 8) (t := 27) (by decide +kernel) (by decide +kernel)).trans (ite_congr rfl (fun c0 => ?_) (fun c0 => ?_))
  · refine (R_pure0 (ins := .aload_n 2) (len := 1) (loc' := [.ref 48, .int x1, .ref ry]) (st' := [.ref ry]) (by decide +kernel) (fun _ => rfl)).trans ?_
    refine (R_pure0 (ins := .aload_n 0) (len := 1) (loc' := [.ref 48, .int x1, .ref ry]) (st' := [.ref 48, .ref ry]) (by decide +kernel) (fun _ => rfl)).trans ?_
    refine (R_gr (i := 15) (ci := 3) (k := 2) (n := 3) (b := 50) (by decide +kernel) (by decide +kernel) (by decide) rfl (SH_ref (by decide +kernel))).trans ?_
    refine (R_pure0 (ins := .iload_n 1) (len := 1) (loc' := [.ref 48, .int x1, .ref ry]) (st' := [.int x1, .ref 50, .ref ry]) (by decide +kernel) (fun _ => rfl)).trans ?_
    refine (R_iaload (kd := 100) (n := 6) (by decide +kernel) rfl (by decide) (h1 c0)).trans ?_
    refine (R_virt (i := 42) (f := 53) (kd := 0) (na := 1) (ml := 2) (ci := 4) (n := 7) (b := ry) (As := [.int (mi 50 x1.toNatClampNeg)]) (rest := []) (by decide +kernel) (by decide +kernel) (by decide) (by decide +kernel) rfl (by decide +kernel) hS_ry rfl (by decide +kernel) (Nat.le_of_ble_eq_true rfl)).trans ?_
    rfl
  · refine (R_bipush (n := 10) (v := 10) (by decide +kernel) (by decide +kernel)).trans ?_
    refine (R_goto (off := 13) (t := 37) (by decide +kernel) (by decide +kernel)).trans ?_
    exact R_ireturn (by decide +kernel) (by decide +kernel)
theorem s36_8n {L : Nat} {mi : Nat → Nat → Int32} {ml : Nat → Nat → Int64} {d : Nat} {Q : Option Value → xM → Prop} {x1 : Int32} : X 36 8 [.ref 48, .int x1, xmk] [.null] (SH L, mi, ml, MR) d Q =
    Q (some (.int 10)) (SH L, mi, ml, MR) := by
  refine (R_pure0 (ins := .astore_n 2) (len := 1) (loc' := [.ref 48, .int x1, .null]) (st' := []) (by decide +kernel) (fun _ => rfl)).trans ?_
  refine (R_pure0 (ins := .aload_n 2) (len := 1) (loc' := [.ref 48, .int x1, .null]) (st' := [.null]) (by decide +kernel) (fun _ => rfl)).trans ?_
  refine (R_ifnull_n (off := 12) (t := 22) (by decide +kernel) (by decide +kernel)).trans ?_
  refine (R_bipush (n := 10) (v := 10) (by decide +kernel) (by decide +kernel)).trans ?_
  refine (R_goto (off := 13) (t := 37) (by decide +kernel) (by decide +kernel)).trans ?_
  exact R_ireturn (by decide +kernel) (by decide +kernel)
theorem s36_37 {L : Nat} {mi : Nat → Nat → Int32} {ml : Nat → Nat → Int64} {d : Nat} {Q : Option Value → xM → Prop} {x1 y : Int32} {r2 : Nat} (hS_r2 : (SH L)[r2]? = some (4, 7)) : X 36 37 [.ref 48, .int x1, .ref r2] [.int y] (SH L, mi, ml, MR) d Q =
    Q (some (.int y)) (SH L, mi, ml, MR) := by
  exact R_ireturn (by decide +kernel) (by decide +kernel)
theorem s37 {L : Nat} {mi : Nat → Nat → Int32} {ml : Nat → Nat → Int64} {d : Nat} {Q : Option Value → xM → Prop} {x1 : Int32} (h1 : ¬ (x1 < 0) → (x1 < 6) → xin x1 6 = true) (h2 : ¬ (x1 < 0) → (x1 < 6) → xin x1 6 = true) (h3 : ¬ (x1 < 0) → (x1 < 6) → xin x1 6 = true) (h4 : ¬ (x1 < 0) → (x1 < 6) → xin x1 6 = true) : Xm 37 [.ref 48, .int x1] (SH L, mi, ml, MR) d Q =
    if (x1 < 0) then (Q none (SH L, mi, ml, MR)) else (if (x1 < 6) then (Q none (SH L, (xw (xw mi 49 x1.toNatClampNeg ((mi 49 x1.toNatClampNeg) - 1)) 50 x1.toNatClampNeg (((xw mi 49 x1.toNatClampNeg ((mi 49 x1.toNatClampNeg) - 1)) 50 x1.toNatClampNeg) + 1)), ml, MR)) else (Q none (SH L, mi, ml, MR))) := by
  rw [Xm_ent (n := 2) (loc := [.ref 48, .int x1]) (by decide +kernel) rfl]
  refine (R_pure0 (ins := .iload_n 1) (len := 1) (loc' := [.ref 48, .int x1]) (st' := [.int x1]) (by decide +kernel) (fun _ => rfl)).trans ?_
  refine (R_if_lt (off := 41) (t := 42) (by decide +kernel) (by decide +kernel)).trans (ite_congr rfl (fun c0 => ?_) (fun c0 => ?_))
  · exact R_return (by decide +kernel) (by decide +kernel)
  · refine (R_pure0 (ins := .iload_n 1) (len := 1) (loc' := [.ref 48, .int x1]) (st' := [.int x1]) (by decide +kernel) (fun _ => rfl)).trans ?_
    refine (R_pure0 (ins := .aload_n 0) (len := 1) (loc' := [.ref 48, .int x1]) (st' := [.ref 48, .int x1]) (by decide +kernel) (fun _ => rfl)).trans ?_
    refine (R_gr (i := 9) (ci := 3) (k := 1) (n := 3) (b := 49) (by decide +kernel) (by decide +kernel) (by decide) rfl (SH_ref (by decide +kernel))).trans ?_
    refine (R_arraylength (kd := 100) (n := 6) (by decide +kernel) rfl (by decide)).trans ?_
    show X 37 10 [.ref 48, .int x1] [.int 6, .int x1] (SH L, mi, ml, MR) _ _ = _
    refine (R_icmp_ge (off := 32) (t := 42) (by decide +kernel) (by decide +kernel)).trans (ite_congr rfl (fun c1 => ?_) (fun c1 => ?_))
    · refine (R_pure0 (ins := .iload_n 1) (len := 1) (loc' := [.ref 48, .int x1]) (st' := [.int x1]) (by decide +kernel) (fun _ => rfl)).trans ?_
      refine (R_pure0 (ins := .aload_n 0) (len := 1) (loc' := [.ref 48, .int x1]) (st' := [.ref 48, .int x1]) (by decide +kernel) (fun _ => rfl)).trans ?_
      refine (R_gr (i := 15) (ci := 3) (k := 2) (n := 3) (b := 50) (by decide +kernel) (by decide +kernel) (by decide) rfl (SH_ref (by decide +kernel))).trans ?_
      refine (R_arraylength (kd := 100) (n := 6) (by decide +kernel) rfl (by decide)).trans ?_
      show X 37 19 [.ref 48, .int x1] [.int 6, .int x1] (SH L, mi, ml, MR) _ _ = _
      refine (R_icmp_ge (off := 23) (t := 42) (by decide +kernel) (by decide +kernel)).trans ((if_pos c1).trans ?_)
      refine (R_pure0 (ins := .aload_n 0) (len := 1) (loc' := [.ref 48, .int x1]) (st' := [.ref 48]) (by decide +kernel) (fun _ => rfl)).trans ?_
      refine (R_gr (i := 9) (ci := 3) (k := 1) (n := 3) (b := 49) (by decide +kernel) (by decide +kernel) (by decide) rfl (SH_ref (by decide +kernel))).trans ?_
      refine (R_pure0 (ins := .iload_n 1) (len := 1) (loc' := [.ref 48, .int x1]) (st' := [.int x1, .ref 49]) (by decide +kernel) (fun _ => rfl)).trans ?_
      refine (R_pure0 (ins := .dup2) (len := 1) (loc' := [.ref 48, .int x1]) (st' := [.int x1, .ref 49, .int x1, .ref 49]) (by decide +kernel) (fun _ => rfl)).trans ?_
      refine (R_iaload (kd := 100) (n := 6) (by decide +kernel) rfl (by decide) (h1 c0 c1)).trans ?_
      refine (R_iconst (n := 1) (v := 1) (by decide +kernel) (by decide +kernel)).trans ?_
      refine (R_pure0 (ins := .isub) (len := 1) (loc' := [.ref 48, .int x1]) (st' := [.int ((mi 49 x1.toNatClampNeg) - 1), .int x1, .ref 49]) (by decide +kernel) (fun _ => rfl)).trans ?_
      refine (R_iastore (n := 6) (by decide +kernel) rfl (h2 c0 c1)).trans ?_
      refine (R_pure0 (ins := .aload_n 0) (len := 1) (loc' := [.ref 48, .int x1]) (st' := [.ref 48]) (by decide +kernel) (fun _ => rfl)).trans ?_
      refine (R_gr (i := 15) (ci := 3) (k := 2) (n := 3) (b := 50) (by decide +kernel) (by decide +kernel) (by decide) rfl (SH_ref (by decide +kernel))).trans ?_
      refine (R_pure0 (ins := .iload_n 1) (len := 1) (loc' := [.ref 48, .int x1]) (st' := [.int x1, .ref 50]) (by decide +kernel) (fun _ => rfl)).trans ?_
      refine (R_pure0 (ins := .dup2) (len := 1) (loc' := [.ref 48, .int x1]) (st' := [.int x1, .ref 50, .int x1, .ref 50]) (by decide +kernel) (fun _ => rfl)).trans ?_
      refine (R_iaload (kd := 100) (n := 6) (by decide +kernel) rfl (by decide) (h3 c0 c1)).trans ?_
      refine (R_iconst (n := 1) (v := 1) (by decide +kernel) (by decide +kernel)).trans ?_
      refine (R_pure0 (ins := .iadd) (len := 1) (loc' := [.ref 48, .int x1]) (st' := [.int (((xw mi 49 x1.toNatClampNeg ((mi 49 x1.toNatClampNeg) - 1)) 50 x1.toNatClampNeg) + 1), .int x1, .ref 50]) (by decide +kernel) (fun _ => rfl)).trans ?_
      refine (R_iastore (n := 6) (by decide +kernel) rfl (h4 c0 c1)).trans ?_
      exact R_return (by decide +kernel) (by decide +kernel)
    · exact R_return (by decide +kernel) (by decide +kernel)
theorem s38 {L : Nat} {mi : Nat → Nat → Int32} {ml : Nat → Nat → Int64} {d : Nat} {Q : Option Value → xM → Prop} {x1 : Int32} (h1 : ¬ (x1 < 0) → (x1 < 6) → xin x1 6 = true) (h2 : ¬ (x1 < 0) → (x1 < 6) → xin x1 6 = true) (h3 : ¬ (x1 < 0) → (x1 < 6) → xin x1 6 = true) (h4 : ¬ (x1 < 0) → (x1 < 6) → xin x1 6 = true) : Xm 38 [.ref 48, .int x1] (SH L, mi, ml, MR) d Q =
    if (x1 < 0) then (Q none (SH L, mi, ml, MR)) else (if (x1 < 6) then (Q none (SH L, (xw (xw mi 49 x1.toNatClampNeg ((mi 49 x1.toNatClampNeg) + 1)) 50 x1.toNatClampNeg (((xw mi 49 x1.toNatClampNeg ((mi 49 x1.toNatClampNeg) + 1)) 50 x1.toNatClampNeg) - 1)), ml, MR)) else (Q none (SH L, mi, ml, MR))) := by
  rw [Xm_ent (n := 2) (loc := [.ref 48, .int x1]) (by decide +kernel) rfl]
  refine (R_pure0 (ins := .iload_n 1) (len := 1) (loc' := [.ref 48, .int x1]) (st' := [.int x1]) (by decide +kernel) (fun _ => rfl)).trans ?_
  refine (R_if_lt (off := 41) (t := 42) (by decide +kernel) (by decide +kernel)).trans (ite_congr rfl (fun c0 => ?_) (fun c0 => ?_))
  · exact R_return (by decide +kernel) (by decide +kernel)
  · refine (R_pure0 (ins := .iload_n 1) (len := 1) (loc' := [.ref 48, .int x1]) (st' := [.int x1]) (by decide +kernel) (fun _ => rfl)).trans ?_
    refine (R_pure0 (ins := .aload_n 0) (len := 1) (loc' := [.ref 48, .int x1]) (st' := [.ref 48, .int x1]) (by decide +kernel) (fun _ => rfl)).trans ?_
    refine (R_gr (i := 9) (ci := 3) (k := 1) (n := 3) (b := 49) (by decide +kernel) (by decide +kernel) (by decide) rfl (SH_ref (by decide +kernel))).trans ?_
    refine (R_arraylength (kd := 100) (n := 6) (by decide +kernel) rfl (by decide)).trans ?_
    show X 38 10 [.ref 48, .int x1] [.int 6, .int x1] (SH L, mi, ml, MR) _ _ = _
    refine (R_icmp_ge (off := 32) (t := 42) (by decide +kernel) (by decide +kernel)).trans (ite_congr rfl (fun c1 => ?_) (fun c1 => ?_))
    · refine (R_pure0 (ins := .iload_n 1) (len := 1) (loc' := [.ref 48, .int x1]) (st' := [.int x1]) (by decide +kernel) (fun _ => rfl)).trans ?_
      refine (R_pure0 (ins := .aload_n 0) (len := 1) (loc' := [.ref 48, .int x1]) (st' := [.ref 48, .int x1]) (by decide +kernel) (fun _ => rfl)).trans ?_
      refine (R_gr (i := 15) (ci := 3) (k := 2) (n := 3) (b := 50) (by decide +kernel) (by decide +kernel) (by decide) rfl (SH_ref (by decide +kernel))).trans ?_
      refine (R_arraylength (kd := 100) (n := 6) (by decide +kernel) rfl (by decide)).trans ?_
      show X 38 19 [.ref 48, .int x1] [.int 6, .int x1] (SH L, mi, ml, MR) _ _ = _
      refine (R_icmp_ge (off := 23) (t := 42) (by decide +kernel) (by decide +kernel)).trans ((if_pos c1).trans ?_)
      refine (R_pure0 (ins := .aload_n 0) (len := 1) (loc' := [.ref 48, .int x1]) (st' := [.ref 48]) (by decide +kernel) (fun _ => rfl)).trans ?_
      refine (R_gr (i := 9) (ci := 3) (k := 1) (n := 3) (b := 49) (by decide +kernel) (by decide +kernel) (by decide) rfl (SH_ref (by decide +kernel))).trans ?_
      refine (R_pure0 (ins := .iload_n 1) (len := 1) (loc' := [.ref 48, .int x1]) (st' := [.int x1, .ref 49]) (by decide +kernel) (fun _ => rfl)).trans ?_
      refine (R_pure0 (ins := .dup2) (len := 1) (loc' := [.ref 48, .int x1]) (st' := [.int x1, .ref 49, .int x1, .ref 49]) (by decide +kernel) (fun _ => rfl)).trans ?_
      refine (R_iaload (kd := 100) (n := 6) (by decide +kernel) rfl (by decide) (h1 c0 c1)).trans ?_
      refine (R_iconst (n := 1) (v := 1) (by decide +kernel) (by decide +kernel)).trans ?_
      refine (R_pure0 (ins := .iadd) (len := 1) (loc' := [.ref 48, .int x1]) (st' := [.int ((mi 49 x1.toNatClampNeg) + 1), .int x1, .ref 49]) (by decide +kernel) (fun _ => rfl)).trans ?_
      refine (R_iastore (n := 6) (by decide +kernel) rfl (h2 c0 c1)).trans ?_
      refine (R_pure0 (ins := .aload_n 0) (len := 1) (loc' := [.ref 48, .int x1]) (st' := [.ref 48]) (by decide +kernel) (fun _ => rfl)).trans ?_
      refine (R_gr (i := 15) (ci := 3) (k := 2) (n := 3) (b := 50) (by decide +kernel) (by decide +kernel) (by decide) rfl (SH_ref (by decide +kernel))).trans ?_
      refine (R_pure0 (ins := .iload_n 1) (len := 1) (loc' := [.ref 48, .int x1]) (st' := [.int x1, .ref 50]) (by decide +kernel) (fun _ => rfl)).trans ?_
      refine (R_pure0 (ins := .dup2) (len := 1) (loc' := [.ref 48, .int x1]) (st' := [.int x1, .ref 50, .int x1, .ref 50]) (by decide +kernel) (fun _ => rfl)).trans ?_
      refine (R_iaload (kd := 100) (n := 6) (by decide +kernel) rfl (by decide) (h3 c0 c1)).trans ?_
      refine (R_iconst (n := 1) (v := 1) (by decide +kernel) (by decide +kernel)).trans ?_
      refine (R_pure0 (ins := .isub) (len := 1) (loc' := [.ref 48, .int x1]) (st' := [.int (((xw mi 49 x1.toNatClampNeg ((mi 49 x1.toNatClampNeg) + 1)) 50 x1.toNatClampNeg) - 1), .int x1, .ref 50]) (by decide +kernel) (fun _ => rfl)).trans ?_
      refine (R_iastore (n := 6) (by decide +kernel) rfl (h4 c0 c1)).trans ?_
      exact R_return (by decide +kernel) (by decide +kernel)
    · exact R_return (by decide +kernel) (by decide +kernel)
theorem s39 {L : Nat} {mi : Nat → Nat → Int32} {ml : Nat → Nat → Int64} {d : Nat} {Q : Option Value → xM → Prop} : Xm 39 [.ref 48] (SH L, mi, ml, MR) d Q =
    X 39 4 [.ref 48, .int 0, .int 0] [] (SH L, mi, ml, MR) d Q := by
  rw [Xm_ent (n := 3) (loc := [.ref 48, xmk, xmk]) (by decide +kernel) rfl]
  refine (R_iconst (n := 0) (v := 0) (by decide +kernel) (by decide +kernel)).trans ?_
  refine (R_pure0 (ins := .istore_n 1) (len := 1) (loc' := [.ref 48, .int 0, xmk]) (st' := []) (by decide +kernel) (fun _ => rfl)).trans ?_
  refine (R_iconst (n := 0) (v := 0) (by decide +kernel) (by decide +kernel)).trans ?_
  refine (R_pure0 (ins := .istore_n 2) (len := 1) (loc' := [.ref 48, .int 0, .int 0]) (st' := []) (by decide +kernel) (fun _ => rfl)).trans ?_
  rfl
theorem s39_4 {L : Nat} {mi : Nat → Nat → Int32} {ml : Nat → Nat → Int64} {d : Nat} {Q : Option Value → xM → Prop} {x1 x2 : Int32} : X 39 4 [.ref 48, .int x1, .int x2] [] (SH L, mi, ml, MR) (d + 1) Q =
    if (x2 < 6) then (Xm 35 [.ref 48, .int x2] (SH L, mi, ml, MR) d (fun v μ' => X 39 16 [.ref 48, .int x1, .int x2] (v.toList ++ [.int x1]) μ' (d + 1) Q)) else (Q (some (.int x1)) (SH L, mi, ml, MR)) := by
  refine (R_pure0 (ins := .iload_n 2) (len := 1) (loc' := [.ref 48, .int x1, .int x2]) (st' := [.int x2]) (by decide +kernel) (fun _ => rfl)).trans ?_
  refine (R_bipush (n := 6) (v := 6) (by decide +kernel) (by decide +kernel)).trans ?_
  refine (R_icmp_ge (off := 27) (t := 34) (by decide +kernel) (by decide +kernel)).trans (ite_congr rfl (fun c0 => ?_) (fun c0 => ?_))
  · refine (R_pure0 (ins := .iload_n 1) (len := 1) (loc' := [.ref 48, .int x1, .int x2]) (st' := [.int x1]) (by decide +kernel) (fun _ => rfl)).trans ?_
    refine (R_pure0 (ins := .aload_n 0) (len := 1) (loc' := [.ref 48, .int x1, .int x2]) (st' := [.ref 48, .int x1]) (by decide +kernel) (fun _ => rfl)).trans ?_
    refine (R_pure0 (ins := .iload_n 2) (len := 1) (loc' := [.ref 48, .int x1, .int x2]) (st' := [.int x2, .ref 48, .int x1]) (by decide +kernel) (fun _ => rfl)).trans ?_
    refine (R_virt (i := 45) (f := 35) (kd := 0) (na := 1) (ml := 2) (ci := 3) (n := 3) (b := 48) (As := [.int x2]) (rest := [.int x1]) (by decide +kernel) (by decide +kernel) (by decide) (by decide +kernel) rfl (by decide +kernel) rfl rfl (by decide +kernel) (Nat.le_of_ble_eq_true rfl)).trans ?_
    rfl
  · refine (R_pure0 (ins := .iload_n 1) (len := 1) (loc' := [.ref 48, .int x1, .int x2]) (st' := [.int x1]) (by decide +kernel) (fun _ => rfl)).trans ?_
    exact R_ireturn (by decide +kernel) (by decide +kernel)
theorem s39_16 {L : Nat} {mi : Nat → Nat → Int32} {ml : Nat → Nat → Int64} {d : Nat} {Q : Option Value → xM → Prop} {x1 x2 y z0 : Int32} : X 39 16 [.ref 48, .int x1, .int x2] [.int y, .int z0] (SH L, mi, ml, MR) d Q =
    if (y = 0) then (X 39 4 [.ref 48, .int (z0 ||| 0), .int (x2 + 1)] [] (SH L, mi, ml, MR) d Q) else (X 39 4 [.ref 48, .int (z0 ||| (1 <<< (x2 &&& 31))), .int (x2 + 1)] [] (SH L, mi, ml, MR) d Q) := by
  refine (R_if_eq (off := 9) (t := 25) (by decide +kernel) (by decide +kernel)).trans (ite_congr rfl (fun c0 => ?_) (fun c0 => ?_))
  · refine (R_iconst (n := 0) (v := 0) (by decide +kernel) (by decide +kernel)).trans ?_
    refine (R_pure0 (ins := .ior) (len := 1) (loc' := [.ref 48, .int x1, .int x2]) (st' := [.int (z0 ||| 0)]) (by decide +kernel) (fun _ => rfl)).trans ?_
    refine (R_pure0 (ins := .istore_n 1) (len := 1) (loc' := [.ref 48, .int (z0 ||| 0), .int x2]) (st' := []) (by decide +kernel) (fun _ => rfl)).trans ?_
    refine (R_iinc (k := 2) (n := 1) (x := x2) (v := (x2 + 1)) (loc' := [.ref 48, .int (z0 ||| 0), .int (x2 + 1)]) (by decide +kernel) rfl rfl rfl).trans ?_
    refine (R_goto (off := (-27)) (t := 4) (by decide +kernel) (by decide +kernel)).trans ?_
    rfl
  · refine (R_iconst (n := 1) (v := 1) (by decide +kernel) (by decide +kernel)).trans ?_
    refine (R_pure0 (ins := .iload_n 2) (len := 1) (loc' := [.ref 48, .int x1, .int x2]) (st' := [.int x2, .int 1, .int z0]) (by decide +kernel) (fun _ => rfl)).trans ?_
    refine (R_pure0 (ins := .ishl) (len := 1) (loc' := [.ref 48, .int x1, .int x2]) (st' := [.int (1 <<< (x2 &&& 31)), .int z0]) (by decide +kernel) (fun _ => rfl)).trans ?_
    refine (R_goto (off := 4) (t := 26) (by decide +kernel) (by decide +kernel)).trans ?_
    refine (R_pure0 (ins := .ior) (len := 1) (loc' := [.ref 48, .int x1, .int x2]) (st' := [.int (z0 ||| (1 <<< (x2 &&& 31)))]) (by decide +kernel) (fun _ => rfl)).trans ?_
    refine (R_pure0 (ins := .istore_n 1) (len := 1) (loc' := [.ref 48, .int (z0 ||| (1 <<< (x2 &&& 31))), .int x2]) (st' := []) (by decide +kernel) (fun _ => rfl)).trans ?_
    refine (R_iinc (k := 2) (n := 1) (x := x2) (v := (x2 + 1)) (loc' := [.ref 48, .int (z0 ||| (1 <<< (x2 &&& 31))), .int (x2 + 1)]) (by decide +kernel) rfl rfl rfl).trans ?_
    refine (R_goto (off := (-27)) (t := 4) (by decide +kernel) (by decide +kernel)).trans ?_
    rfl
theorem s40 {L : Nat} {mi : Nat → Nat → Int32} {ml : Nat → Nat → Int64} {d : Nat} {Q : Option Value → xM → Prop} : Xm 40 [.ref 48] (SH L, mi, ml, MR) d Q =
    X 40 4 [.ref 48, .int 0, .int 0] [] (SH L, mi, ml, MR) d Q := by
  rw [Xm_ent (n := 3) (loc := [.ref 48, xmk, xmk]) (by decide +kernel) rfl]
  refine (R_iconst (n := 0) (v := 0) (by decide +kernel) (by decide +kernel)).trans ?_
  refine (R_pure0 (ins := .istore_n 1) (len := 1) (loc' := [.ref 48, .int 0, xmk]) (st' := []) (by decide +kernel) (fun _ => rfl)).trans ?_
  refine (R_iconst (n := 0) (v := 0) (by decide +kernel) (by decide +kernel)).trans ?_
  refine (R_pure0 (ins := .istore_n 2) (len := 1) (loc' := [.ref 48, .int 0, .int 0]) (st' := []) (by decide +kernel) (fun _ => rfl)).trans ?_
  rfl
theorem s40_4 {L : Nat} {mi : Nat → Nat → Int32} {ml : Nat → Nat → Int64} {d : Nat} {Q : Option Value → xM → Prop} {x1 x2 : Int32} : X 40 4 [.ref 48, .int x1, .int x2] [] (SH L, mi, ml, MR) (d + 1) Q =
    if (x2 < 6) then (Xm 35 [.ref 48, .int x2] (SH L, mi, ml, MR) d (fun v μ' => X 40 16 [.ref 48, .int x1, .int x2] (v.toList ++ [.int x1]) μ' (d + 1) Q)) else (Q (some (.int x1)) (SH L, mi, ml, MR)) := by
  refine (R_pure0 (ins := .iload_n 2) (len := 1) (loc' := [.ref 48, .int x1, .int x2]) (st' := [.int x2]) (by decide +kernel) (fun _ => rfl)).trans ?_
  refine (R_bipush (n := 6) (v := 6) (by decide +kernel) (by decide +kernel)).trans ?_
  refine (R_icmp_ge (off := 31) (t := 38) (by decide +kernel) (by decide +kernel)).trans (ite_congr rfl (fun c0 => ?_) (fun c0 => ?_))
  · refine (R_pure0 (ins := .iload_n 1) (len := 1) (loc' := [.ref 48, .int x1, .int x2]) (st' := [.int x1]) (by decide +kernel) (fun _ => rfl)).trans ?_
    refine (R_pure0 (ins := .aload_n 0) (len := 1) (loc' := [.ref 48, .int x1, .int x2]) (st' := [.ref 48, .int x1]) (by decide +kernel) (fun _ => rfl)).trans ?_
    refine (R_pure0 (ins := .iload_n 2) (len := 1) (loc' := [.ref 48, .int x1, .int x2]) (st' := [.int x2, .ref 48, .int x1]) (by decide +kernel) (fun _ => rfl)).trans ?_
    refine (R_virt (i := 45) (f := 35) (kd := 0) (na := 1) (ml := 2) (ci := 3) (n := 3) (b := 48) (As := [.int x2]) (rest := [.int x1]) (by decide +kernel) (by decide +kernel) (by decide) (by decide +kernel) rfl (by decide +kernel) rfl rfl (by decide +kernel) (Nat.le_of_ble_eq_true rfl)).trans ?_
    rfl
  · refine (R_pure0 (ins := .iload_n 1) (len := 1) (loc' := [.ref 48, .int x1, .int x2]) (st' := [.int x1]) (by decide +kernel) (fun _ => rfl)).trans ?_
    exact R_ireturn (by decide +kernel) (by decide +kernel)
theorem s40_16 {L : Nat} {mi : Nat → Nat → Int32} {ml : Nat → Nat → Int64} {d : Nat} {Q : Option Value → xM → Prop} {x1 x2 y z0 : Int32} : X 40 16 [.ref 48, .int x1, .int x2] [.int y, .int z0] (SH L, mi, ml, MR) (d + 1) Q =
    if (y = 0) then (X 40 4 [.ref 48, .int (z0 ||| 0), .int (x2 + 1)] [] (SH L, mi, ml, MR) (d + 1) Q) else (Xm 36 [.ref 48, .int x2] (SH L, mi, ml, MR) d (fun v μ' => X 40 25 [.ref 48, .int x1, .int x2] (v.toList ++ [.int 1, .int z0]) μ' (d + 1) Q)) := by
  refine (R_if_eq (off := 13) (t := 29) (by decide +kernel) (by decide +kernel)).trans (ite_congr rfl (fun c0 => ?_) (fun c0 => ?_))
  · refine (R_iconst (n := 0) (v := 0) (by decide +kernel) (by decide +kernel)).trans ?_
    refine (R_pure0 (ins := .ior) (len := 1) (loc' := [.ref 48, .int x1, .int x2]) (st' := [.int (z0 ||| 0)]) (by decide +kernel) (fun _ => rfl)).trans ?_
    refine (R_pure0 (ins := .istore_n 1) (len := 1) (loc' := [.ref 48, .int (z0 ||| 0), .int x2]) (st' := []) (by decide +kernel) (fun _ => rfl)).trans ?_
    refine (R_iinc (k := 2) (n := 1) (x := x2) (v := (x2 + 1)) (loc' := [.ref 48, .int (z0 ||| 0), .int (x2 + 1)]) (by decide +kernel) rfl rfl rfl).trans ?_
    refine (R_goto (off := (-31)) (t := 4) (by decide +kernel) (by decide +kernel)).trans ?_
    rfl
  · refine (R_iconst (n := 1) (v := 1) (by decide +kernel) (by decide +kernel)).trans ?_
    refine (R_pure0 (ins := .aload_n 0) (len := 1) (loc' := [.ref 48, .int x1, .int x2]) (st' := [.ref 48, .int 1, .int z0]) (by decide +kernel) (fun _ => rfl)).trans ?_
    refine (R_pure0 (ins := .iload_n 2) (len := 1) (loc' := [.ref 48, .int x1, .int x2]) (st' := [.int x2, .ref 48, .int 1, .int z0]) (by decide +kernel) (fun _ => rfl)).trans ?_
    refine (R_virt (i := 49) (f := 36) (kd := 0) (na := 1) (ml := 3) (ci := 3) (n := 3) (b := 48) (As := [.int x2]) (rest := [.int 1, .int z0]) (by decide +kernel) (by decide +kernel) (by decide) (by decide +kernel) rfl (by decide +kernel) rfl rfl (by decide +kernel) (Nat.le_of_ble_eq_true rfl)).trans ?_
    rfl
theorem s40_25 {L : Nat} {mi : Nat → Nat → Int32} {ml : Nat → Nat → Int64} {d : Nat} {Q : Option Value → xM → Prop} {x1 x2 y z0 z1 : Int32} : X 40 25 [.ref 48, .int x1, .int x2] [.int y, .int z0, .int z1] (SH L, mi, ml, MR) d Q =
    X 40 4 [.ref 48, .int (z1 ||| (z0 <<< (y &&& 31))), .int (x2 + 1)] [] (SH L, mi, ml, MR) d Q := by
  refine (R_pure0 (ins := .ishl) (len := 1) (loc' := [.ref 48, .int x1, .int x2]) (st' := [.int (z0 <<< (y &&& 31)), .int z1]) (by decide +kernel) (fun _ => rfl)).trans ?_
  refine (R_goto (off := 4) (t := 30) (by decide +kernel) (by decide +kernel)).trans ?_
  refine (R_pure0 (ins := .ior) (len := 1) (loc' := [.ref 48, .int x1, .int x2]) (st' := [.int (z1 ||| (z0 <<< (y &&& 31)))]) (by decide +kernel) (fun _ => rfl)).trans ?_
  refine (R_pure0 (ins := .istore_n 1) (len := 1) (loc' := [.ref 48, .int (z1 ||| (z0 <<< (y &&& 31))), .int x2]) (st' := []) (by decide +kernel) (fun _ => rfl)).trans ?_
  refine (R_iinc (k := 2) (n := 1) (x := x2) (v := (x2 + 1)) (loc' := [.ref 48, .int (z1 ||| (z0 <<< (y &&& 31))), .int (x2 + 1)]) (by decide +kernel) rfl rfl rfl).trans ?_
  refine (R_goto (off := (-31)) (t := 4) (by decide +kernel) (by decide +kernel)).trans ?_
  rfl
theorem s41 {L : Nat} {mi : Nat → Nat → Int32} {ml : Nat → Nat → Int64} {d : Nat} {Q : Option Value → xM → Prop} {x1 : Int32} : Xm 41 [.ref 48, .int x1] (SH L, mi, ml, MR) d Q =
    X 41 4 [.ref 48, .int x1, .int 0, .int 0] [] (SH L, mi, ml, MR) d Q := by
  rw [Xm_ent (n := 4) (loc := [.ref 48, .int x1, xmk, xmk]) (by decide +kernel) rfl]
  refine (R_iconst (n := 0) (v := 0) (by decide +kernel) (by decide +kernel)).trans ?_
  refine (R_pure0 (ins := .istore_n 2) (len := 1) (loc' := [.ref 48, .int x1, .int 0, xmk]) (st' := []) (by decide +kernel) (fun _ => rfl)).trans ?_
  refine (R_iconst (n := 0) (v := 0) (by decide +kernel) (by decide +kernel)).trans ?_
  refine (R_pure0 (ins := .istore_n 3) (len := 1) (loc' := [.ref 48, .int x1, .int 0, .int 0]) (st' := []) (by decide +kernel) (fun _ => rfl)).trans ?_
  rfl
theorem s41_4 {L : Nat} {mi : Nat → Nat → Int32} {ml : Nat → Nat → Int64} {d : Nat} {Q : Option Value → xM → Prop} {x1 x2 x3 : Int32} : X 41 4 [.ref 48, .int x1, .int x2, .int x3] [] (SH L, mi, ml, MR) (d + 1) Q =
    if (x3 < 6) then (Xm 35 [.ref 48, .int x3] (SH L, mi, ml, MR) d (fun v μ' => X 41 16 [.ref 48, .int x1, .int x2, .int x3] (v.toList ++ [.int x2]) μ' (d + 1) Q)) else (Q (some (.int x2)) (SH L, mi, ml, MR)) := by
  refine (R_pure0 (ins := .iload_n 3) (len := 1) (loc' := [.ref 48, .int x1, .int x2, .int x3]) (st' := [.int x3]) (by decide +kernel) (fun _ => rfl)).trans ?_
  refine (R_bipush (n := 6) (v := 6) (by decide +kernel) (by decide +kernel)).trans ?_
  refine (R_icmp_ge (off := 34) (t := 41) (by decide +kernel) (by decide +kernel)).trans (ite_congr rfl (fun c0 => ?_) (fun c0 => ?_))
  · refine (R_pure0 (ins := .iload_n 2) (len := 1) (loc' := [.ref 48, .int x1, .int x2, .int x3]) (st' := [.int x2]) (by decide +kernel) (fun _ => rfl)).trans ?_
    refine (R_pure0 (ins := .aload_n 0) (len := 1) (loc' := [.ref 48, .int x1, .int x2, .int x3]) (st' := [.ref 48, .int x2]) (by decide +kernel) (fun _ => rfl)).trans ?_
    refine (R_pure0 (ins := .iload_n 3) (len := 1) (loc' := [.ref 48, .int x1, .int x2, .int x3]) (st' := [.int x3, .ref 48, .int x2]) (by decide +kernel) (fun _ => rfl)).trans ?_
    refine (R_virt (i := 45) (f := 35) (kd := 0) (na := 1) (ml := 2) (ci := 3) (n := 3) (b := 48) (As := [.int x3]) (rest := [.int x2]) (by decide +kernel) (by decide +kernel) (by decide) (by decide +kernel) rfl (by decide +kernel) rfl rfl (by decide +kernel) (Nat.le_of_ble_eq_true rfl)).trans ?_
    rfl
  · refine (R_pure0 (ins := .iload_n 2) (len := 1) (loc' := [.ref 48, .int x1, .int x2, .int x3]) (st' := [.int x2]) (by decide +kernel) (fun _ => rfl)).trans ?_
    exact R_ireturn (by decide +kernel) (by decide +kernel)
theorem s41_16 {L : Nat} {mi : Nat → Nat → Int32} {ml : Nat → Nat → Int64} {d : Nat} {Q : Option Value → xM → Prop} {x1 x2 x3 y z0 : Int32} : X 41 16 [.ref 48, .int x1, .int x2, .int x3] [.int y, .int z0] (SH L, mi, ml, MR) (d + 1) Q =
    if (y = 0) then (X 41 4 [.ref 48, .int x1, .int (z0 + 0), .int (x3 + 1)] [] (SH L, mi, ml, MR) (d + 1) Q) else (Xm 36 [.ref 48, .int x3] (SH L, mi, ml, MR) d (fun v μ' => X 41 24 [.ref 48, .int x1, .int x2, .int x3] (v.toList ++ [.int z0]) μ' (d + 1) Q)) := by
  refine (R_if_eq (off := 16) (t := 32) (by decide +kernel) (by decide +kernel)).trans (ite_congr rfl (fun c0 => ?_) (fun c0 => ?_))
  · refine (R_iconst (n := 0) (v := 0) (by decide +kernel) (by decide +kernel)).trans ?_
    refine (R_pure0 (ins := .iadd) (len := 1) (loc' := [.ref 48, .int x1, .int x2, .int x3]) (st' := [.int (z0 + 0)]) (by decide +kernel) (fun _ => rfl)).trans ?_
    refine (R_pure0 (ins := .istore_n 2) (len := 1) (loc' := [.ref 48, .int x1, .int (z0 + 0), .int x3]) (st' := []) (by decide +kernel) (fun _ => rfl)).trans ?_
    refine (R_iinc (k := 3) (n := 1) (x := x3) (v := (x3 + 1)) (loc' := [.ref 48, .int x1, .int (z0 + 0), .int (x3 + 1)]) (by decide +kernel) rfl rfl rfl).trans ?_
    refine (R_goto (off := (-34)) (t := 4) (by decide +kernel) (by decide +kernel)).trans ?_
    rfl
  · refine (R_pure0 (ins := .aload_n 0) (len := 1) (loc' := [.ref 48, .int x1, .int x2, .int x3]) (st' := [.ref 48, .int z0]) (by decide +kernel) (fun _ => rfl)).trans ?_
    refine (R_pure0 (ins := .iload_n 3) (len := 1) (loc' := [.ref 48, .int x1, .int x2, .int x3]) (st' := [.int x3, .ref 48, .int z0]) (by decide +kernel) (fun _ => rfl)).trans ?_
    refine (R_virt (i := 49) (f := 36) (kd := 0) (na := 1) (ml := 3) (ci := 3) (n := 3) (b := 48) (As := [.int x3]) (rest := [.int z0]) (by decide +kernel) (by decide +kernel) (by decide) (by decide +kernel) rfl (by decide +kernel) rfl rfl (by decide +kernel) (Nat.le_of_ble_eq_true rfl)).trans ?_
    rfl
theorem s41_24 {L : Nat} {mi : Nat → Nat → Int32} {ml : Nat → Nat → Int64} {d : Nat} {Q : Option Value → xM → Prop} {x1 x2 x3 y z0 : Int32} : X 41 24 [.ref 48, .int x1, .int x2, .int x3] [.int y, .int z0] (SH L, mi, ml, MR) d Q =
    if (y < x1) then (X 41 4 [.ref 48, .int x1, .int (z0 + 0), .int (x3 + 1)] [] (SH L, mi, ml, MR) d Q) else (X 41 4 [.ref 48, .int x1, .int (z0 + 1), .int (x3 + 1)] [] (SH L, mi, ml, MR) d Q) := by
  refine (R_pure0 (ins := .iload_n 1) (len := 1) (loc' := [.ref 48, .int x1, .int x2, .int x3]) (st' := [.int x1, .int y, .int z0]) (by decide +kernel) (fun _ => rfl)).trans ?_
  refine (R_icmp_lt (off := 7) (t := 32) (by decide +kernel) (by decide +kernel)).trans (ite_congr rfl (fun c0 => ?_) (fun c0 => ?_))
  · refine (R_iconst (n := 0) (v := 0) (by decide +kernel) (by decide +kernel)).trans ?_
    refine (R_pure0 (ins := .iadd) (len := 1) (loc' := [.ref 48, .int x1, .int x2, .int x3]) (st' := [.int (z0 + 0)]) (by decide +kernel) (fun _ => rfl)).trans ?_
    refine (R_pure0 (ins := .istore_n 2) (len := 1) (loc' := [.ref 48, .int x1, .int (z0 + 0), .int x3]) (st' := []) (by decide +kernel) (fun _ => rfl)).trans ?_
    refine (R_iinc (k := 3) (n := 1) (x := x3) (v := (x3 + 1)) (loc' := [.ref 48, .int x1, .int (z0 + 0), .int (x3 + 1)]) (by decide +kernel) rfl rfl rfl).trans ?_
    refine (R_goto (off := (-34)) (t := 4) (by decide +kernel) (by decide +kernel)).trans ?_
    rfl
  · refine (R_iconst (n := 1) (v := 1) (by decide +kernel) (by decide +kernel)).trans ?_
    refine (R_goto (off := 4) (t := 33) (by decide +kernel) (by decide +kernel)).trans ?_
    refine (R_pure0 (ins := .iadd) (len := 1) (loc' := [.ref 48, .int x1, .int x2, .int x3]) (st' := [.int (z0 + 1)]) (by decide +kernel) (fun _ => rfl)).trans ?_
    refine (R_pure0 (ins := .istore_n 2) (len := 1) (loc' := [.ref 48, .int x1, .int (z0 + 1), .int x3]) (st' := []) (by decide +kernel) (fun _ => rfl)).trans ?_
    refine (R_iinc (k := 3) (n := 1) (x := x3) (v := (x3 + 1)) (loc' := [.ref 48, .int x1, .int (z0 + 1), .int (x3 + 1)]) (by decide +kernel) rfl rfl rfl).trans ?_
    refine (R_goto (off := (-34)) (t := 4) (by decide +kernel) (by decide +kernel)).trans ?_
    rfl
theorem s42 {L : Nat} {mi : Nat → Nat → Int32} {ml : Nat → Nat → Int64} {d : Nat} {Q : Option Value → xM → Prop} {x1 : Int32} : Xm 42 [.ref 48, .int x1] (SH L, mi, ml, MR) (d + 1) Q =
    Xm 43 [.ref 48, .int (if 5 < x1 then 5 else x1), .int 1] (SH L, mi, ml, MR) d (fun v μ' => X 42 10 [.ref 48, .int x1] (v.toList ++ []) μ' (d + 1) Q) := by
  rw [Xm_ent (n := 2) (loc := [.ref 48, .int x1]) (by decide +kernel) rfl]
  refine (R_pure0 (ins := .aload_n 0) (len := 1) (loc' := [.ref 48, .int x1]) (st' := [.ref 48]) (by decide +kernel) (fun _ => rfl)).trans ?_
  refine (R_pure0 (ins := .iload_n 1) (len := 1) (loc' := [.ref 48, .int x1]) (st' := [.int x1, .ref 48]) (by decide +kernel) (fun _ => rfl)).trans ?_
  refine (R_iconst (n := 5) (v := 5) (by decide +kernel) (by decide +kernel)).trans ?_
  refine (R_min (i := 50) (f := 0) (x := x1) (y := 5) (by decide +kernel) (by decide +kernel) rfl).trans ?_
  refine (R_iconst (n := 1) (v := 1) (by decide +kernel) (by decide +kernel)).trans ?_
  refine (R_virt (i := 56) (f := 43) (kd := 0) (na := 2) (ml := 6) (ci := 3) (n := 3) (b := 48) (As := [.int (if 5 < x1 then 5 else x1), .int 1]) (rest := []) (by decide +kernel) (by decide +kernel) (by decide) (by decide +kernel) rfl (by decide +kernel) rfl rfl (by decide +kernel) (Nat.le_of_ble_eq_true rfl)).trans ?_
  rfl
theorem s42_10 {L : Nat} {mi : Nat → Nat → Int32} {ml : Nat → Nat → Int64} {d : Nat} {Q : Option Value → xM → Prop} {x1 y : Int32} : X 42 10 [.ref 48, .int x1] [.int y] (SH L, mi, ml, MR) d Q =
    Q (some (.int y)) (SH L, mi, ml, MR) := by
  exact R_ireturn (by decide +kernel) (by decide +kernel)
theorem s43 {L : Nat} {mi : Nat → Nat → Int32} {ml : Nat → Nat → Int64} {d : Nat} {Q : Option Value → xM → Prop} {x1 x2 : Int32} : Xm 43 [.ref 48, .int x1, .int x2] (SH L, mi, ml, MR) d Q =
    X 43 6 [.ref 48, .int x1, .int x2, .int (-9), .int 0, xmk] [] (SH L, mi, ml, MR) d Q := by
  rw [Xm_ent (n := 6) (loc := [.ref 48, .int x1, .int x2, xmk, xmk, xmk]) (by decide +kernel) rfl]
  refine (R_bipush (n := (-9)) (v := (-9)) (by decide +kernel) (by decide +kernel)).trans ?_
  refine (R_pure0 (ins := .istore_n 3) (len := 1) (loc' := [.ref 48, .int x1, .int x2, .int (-9), xmk, xmk]) (st' := []) (by decide +kernel) (fun _ => rfl)).trans ?_
  refine (R_iconst (n := 0) (v := 0) (by decide +kernel) (by decide +kernel)).trans ?_
  refine (R_pure0 (ins := .istore 4) (len := 2) (loc' := [.ref 48, .int x1, .int x2, .int (-9), .int 0, xmk]) (st' := []) (by decide +kernel) (fun _ => rfl)).trans ?_
  rfl
theorem s43_6 {L : Nat} {mi : Nat → Nat → Int32} {ml : Nat → Nat → Int64} {d : Nat} {Q : Option Value → xM → Prop} {x1 x2 x3 x4 : Int32} : X 43 6 [.ref 48, .int x1, .int x2, .int x3, .int x4, xmk] [] (SH L, mi, ml, MR) (d + 1) Q =
    if (x4 < 6) then (if ((0 : Int32) < x1) then (Xm 35 [.ref 48, .int x4] (SH L, mi, ml, MR) d (fun v μ' => X 43 23 [.ref 48, .int x1, .int x2, .int x3, .int x4, xmk] (v.toList ++ []) μ' (d + 1) Q)) else (if (x3 = (-9)) then (Q (some (.int 0)) (SH L, mi, ml, MR)) else (Q (some (.int x3)) (SH L, mi, ml, MR)))) else (if (x3 = (-9)) then (Q (some (.int 0)) (SH L, mi, ml, MR)) else (Q (some (.int x3)) (SH L, mi, ml, MR))) := by
  refine (R_pure0 (ins := .iload 4) (len := 2) (loc' := [.ref 48, .int x1, .int x2, .int x3, .int x4, xmk]) (st' := [.int x4]) (by decide +kernel) (fun _ => rfl)).trans ?_
  refine (R_bipush (n := 6) (v := 6) (by decide +kernel) (by decide +kernel)).trans ?_
  refine (R_icmp_ge (off := 94) (t := 104) (by decide +kernel) (by decide +kernel)).trans (ite_congr rfl (fun c0 => ?_) (fun c0 => ?_))
  · refine (R_pure0 (ins := .iload_n 1) (len := 1) (loc' := [.ref 48, .int x1, .int x2, .int x3, .int x4, xmk]) (st' := [.int x1]) (by decide +kernel) (fun _ => rfl)).trans ?_
    refine (R_if_le (off := 90) (t := 104) (by decide +kernel) (by decide +kernel)).trans (ite_congr rfl (fun c1 => ?_) (fun c1 => ?_))
    · refine (R_pure0 (ins := .aload_n 0) (len := 1) (loc' := [.ref 48, .int x1, .int x2, .int x3, .int x4, xmk]) (st' := [.ref 48]) (by decide +kernel) (fun _ => rfl)).trans ?_
      refine (R_pure0 (ins := .iload 4) (len := 2) (loc' := [.ref 48, .int x1, .int x2, .int x3, .int x4, xmk]) (st' := [.int x4, .ref 48]) (by decide +kernel) (fun _ => rfl)).trans ?_
      refine (R_virt (i := 45) (f := 35) (kd := 0) (na := 1) (ml := 2) (ci := 3) (n := 3) (b := 48) (As := [.int x4]) (rest := []) (by decide +kernel) (by decide +kernel) (by decide) (by decide +kernel) rfl (by decide +kernel) rfl rfl (by decide +kernel) (Nat.le_of_ble_eq_true rfl)).trans ?_
      rfl
    · refine (R_pure0 (ins := .iload_n 3) (len := 1) (loc' := [.ref 48, .int x1, .int x2, .int x3, .int x4, xmk]) (st' := [.int x3]) (by decide +kernel) (fun _ => rfl)).trans ?_
      refine (R_bipush (n := (-9)) (v := (-9)) (by decide +kernel) (by decide +kernel)).trans ?_
      refine (R_icmp_ne (off := 7) (t := 114) (by decide +kernel) (by decide +kernel)).trans (ite_congr rfl (fun c2 => ?_) (fun c2 => ?_))
      · refine (R_iconst (n := 0) (v := 0) (by decide +kernel) (by decide +kernel)).trans ?_
        refine (R_goto (off := 4) (t := 115) (by decide +kernel) (by decide +kernel)).trans ?_
        exact R_ireturn (by decide +kernel) (by decide +kernel)
      · refine (R_pure0 (ins := .iload_n 3) (len := 1) (loc' := [.ref 48, .int x1, .int x2, .int x3, .int x4, xmk]) (st' := [.int x3]) (by decide +kernel) (fun _ => rfl)).trans ?_
        exact R_ireturn (by decide +kernel) (by decide +kernel)
  · refine (R_pure0 (ins := .iload_n 3) (len := 1) (loc' := [.ref 48, .int x1, .int x2, .int x3, .int x4, xmk]) (st' := [.int x3]) (by decide +kernel) (fun _ => rfl)).trans ?_
    refine (R_bipush (n := (-9)) (v := (-9)) (by decide +kernel) (by decide +kernel)).trans ?_
    refine (R_icmp_ne (off := 7) (t := 114) (by decide +kernel) (by decide +kernel)).trans (ite_congr rfl (fun c3 => ?_) (fun c3 => ?_))
    · refine (R_iconst (n := 0) (v := 0) (by decide +kernel) (by decide +kernel)).trans ?_
      refine (R_goto (off := 4) (t := 115) (by decide +kernel) (by decide +kernel)).trans ?_
      exact R_ireturn (by decide +kernel) (by decide +kernel)
    · refine (R_pure0 (ins := .iload_n 3) (len := 1) (loc' := [.ref 48, .int x1, .int x2, .int x3, .int x4, xmk]) (st' := [.int x3]) (by decide +kernel) (fun _ => rfl)).trans ?_
      exact R_ireturn (by decide +kernel) (by decide +kernel)
theorem s43_23 {L : Nat} {mi : Nat → Nat → Int32} {ml : Nat → Nat → Int64} {d : Nat} {Q : Option Value → xM → Prop} {x1 x2 x3 x4 y : Int32} : X 43 23 [.ref 48, .int x1, .int x2, .int x3, .int x4, xmk] [.int y] (SH L, mi, ml, MR) (d + 1) Q =
    if (y = 0) then (X 43 6 [.ref 48, .int x1, .int x2, .int x3, .int (x4 + 1), xmk] [] (SH L, mi, ml, MR) (d + 1) Q) else (Xm 36 [.ref 48, .int x4] (SH L, mi, ml, MR) d (fun v μ' => X 43 35 [.ref 48, .int x1, .int x2, .int x3, .int x4, xmk] (v.toList ++ []) μ' (d + 1) Q)) := by
  refine (R_if_ne (off := 6) (t := 29) (by decide +kernel) (by decide +kernel)).trans (ite_congr rfl (fun c0 => ?_) (fun c0 => ?_))
  · refine (R_goto (off := 72) (t := 98) (by decide +kernel) (by decide +kernel)).trans ?_
    refine (R_iinc (k := 4) (n := 1) (x := x4) (v := (x4 + 1)) (loc' := [.ref 48, .int x1, .int x2, .int x3, .int (x4 + 1), xmk]) (by decide +kernel) rfl rfl rfl).trans ?_
    refine (R_goto (off := (-95)) (t := 6) (by decide +kernel) (by decide +kernel)).trans ?_
    rfl
  · refine (R_pure0 (ins := .aload_n 0) (len := 1) (loc' := [.ref 48, .int x1, .int x2, .int x3, .int x4, xmk]) (st' := [.ref 48]) (by decide +kernel) (fun _ => rfl)).trans ?_
    refine (R_pure0 (ins := .iload 4) (len := 2) (loc' := [.ref 48, .int x1, .int x2, .int x3, .int x4, xmk]) (st' := [.int x4, .ref 48]) (by decide +kernel) (fun _ => rfl)).trans ?_
    refine (R_virt (i := 49) (f := 36) (kd := 0) (na := 1) (ml := 3) (ci := 3) (n := 3) (b := 48) (As := [.int x4]) (rest := []) (by decide +kernel) (by decide +kernel) (by decide) (by decide +kernel) rfl (by decide +kernel) rfl rfl (by decide +kernel) (Nat.le_of_ble_eq_true rfl)).trans ?_
    rfl
theorem s43_35 {L : Nat} {mi : Nat → Nat → Int32} {ml : Nat → Nat → Int64} {d : Nat} {Q : Option Value → xM → Prop} {x1 x2 x3 x4 y : Int32} : X 43 35 [.ref 48, .int x1, .int x2, .int x3, .int x4, xmk] [.int y] (SH L, mi, ml, MR) (d + 1) Q =
    Xm 37 [.ref 48, .int x4] (SH L, mi, ml, MR) d (fun v μ' => X 43 43 [.ref 48, .int x1, .int x2, .int x3, .int x4, .int y] (v.toList ++ []) μ' (d + 1) Q) := by
  refine (R_pure0 (ins := .istore 5) (len := 2) (loc' := [.ref 48, .int x1, .int x2, .int x3, .int x4, .int y]) (st' := []) (by decide +kernel) (fun _ => rfl)).trans ?_
  refine (R_pure0 (ins := .aload_n 0) (len := 1) (loc' := [.ref 48, .int x1, .int x2, .int x3, .int x4, .int y]) (st' := [.ref 48]) (by decide +kernel) (fun _ => rfl)).trans ?_
  refine (R_pure0 (ins := .iload 4) (len := 2) (loc' := [.ref 48, .int x1, .int x2, .int x3, .int x4, .int y]) (st' := [.int x4, .ref 48]) (by decide +kernel) (fun _ => rfl)).trans ?_
  refine (R_virt (i := 60) (f := 37) (kd := 0) (na := 1) (ml := 2) (ci := 3) (n := 3) (b := 48) (As := [.int x4]) (rest := []) (by decide +kernel) (by decide +kernel) (by decide) (by decide +kernel) rfl (by decide +kernel) rfl rfl (by decide +kernel) (Nat.le_of_ble_eq_true rfl)).trans ?_
  rfl
theorem s43_43 {L : Nat} {mi : Nat → Nat → Int32} {ml : Nat → Nat → Int64} {d : Nat} {Q : Option Value → xM → Prop} {x1 x2 x3 x4 x5 : Int32} : X 43 43 [.ref 48, .int x1, .int x2, .int x3, .int x4, .int x5] [] (SH L, mi, ml, MR) (d + 1) Q =
    if (x2 = 0) then (Xm 43 [.ref 48, .int (x1 - 1), .int 1] (SH L, mi, ml, MR) d (fun v μ' => X 43 61 [.ref 48, .int x1, .int x2, .int x3, .int x4, .int x5] (v.toList ++ [.int x5]) μ' (d + 1) Q)) else (Xm 43 [.ref 48, .int (x1 - 1), .int 0] (SH L, mi, ml, MR) d (fun v μ' => X 43 61 [.ref 48, .int x1, .int x2, .int x3, .int x4, .int x5] (v.toList ++ [.int x5]) μ' (d + 1) Q)) := by
  refine (R_pure0 (ins := .iload 5) (len := 2) (loc' := [.ref 48, .int x1, .int x2, .int x3, .int x4, .int x5]) (st' := [.int x5]) (by decide +kernel) (fun _ => rfl)).trans ?_
  refine (R_pure0 (ins := .aload_n 0) (len := 1) (loc' := [.ref 48, .int x1, .int x2, .int x3, .int x4, .int x5]) (st' := [.ref 48, .int x5]) (by decide +kernel) (fun _ => rfl)).trans ?_
  refine (R_pure0 (ins := .iload_n 1) (len := 1) (loc' := [.ref 48, .int x1, .int x2, .int x3, .int x4, .int x5]) (st' := [.int x1, .ref 48, .int x5]) (by decide +kernel) (fun _ => rfl)).trans ?_
  refine (R_iconst (n := 1) (v := 1) (by decide +kernel) (by decide +kernel)).trans ?_
  refine (R_pure0 (ins := .isub) (len := 1) (loc' := [.ref 48, .int x1, .int x2, .int x3, .int x4, .int x5]) (st' := [.int (x1 - 1), .ref 48, .int x5]) (by decide +kernel) (fun _ => rfl)).trans ?_
  refine (R_pure0 (ins := .iload_n 2) (len := 1) (loc' := [.ref 48, .int x1, .int x2, .int x3, .int x4, .int x5]) (st' := [.int x2, .int (x1 - 1), .ref 48, .int x5]) (by decide +kernel) (fun _ => rfl)).trans ?_
  refine (R_if_ne (off := 7) (t := 57) (by decide +kernel) (by decide +kernel)).trans (ite_congr rfl (fun c0 => ?_) (fun c0 => ?_))
  · refine (R_iconst (n := 1) (v := 1) (by decide +kernel) (by decide +kernel)).trans ?_
    refine (R_goto (off := 4) (t := 58) (by decide +kernel) (by decide +kernel)).trans ?_
    refine (R_virt (i := 56) (f := 43) (kd := 0) (na := 2) (ml := 6) (ci := 3) (n := 3) (b := 48) (As := [.int (x1 - 1), .int 1]) (rest := [.int x5]) (by decide +kernel) (by decide +kernel) (by decide) (by decide +kernel) rfl (by decide +kernel) rfl rfl (by decide +kernel) (Nat.le_of_ble_eq_true rfl)).trans ?_
    rfl
  · refine (R_iconst (n := 0) (v := 0) (by decide +kernel) (by decide +kernel)).trans ?_
    refine (R_virt (i := 56) (f := 43) (kd := 0) (na := 2) (ml := 6) (ci := 3) (n := 3) (b := 48) (As := [.int (x1 - 1), .int 0]) (rest := [.int x5]) (by decide +kernel) (by decide +kernel) (by decide) (by decide +kernel) rfl (by decide +kernel) rfl rfl (by decide +kernel) (Nat.le_of_ble_eq_true rfl)).trans ?_
    rfl
theorem s43_61 {L : Nat} {mi : Nat → Nat → Int32} {ml : Nat → Nat → Int64} {d : Nat} {Q : Option Value → xM → Prop} {x1 x2 x3 x4 x5 y z0 : Int32} : X 43 61 [.ref 48, .int x1, .int x2, .int x3, .int x4, .int x5] [.int y, .int z0] (SH L, mi, ml, MR) (d + 1) Q =
    Xm 38 [.ref 48, .int x4] (SH L, mi, ml, MR) d (fun v μ' => X 43 70 [.ref 48, .int x1, .int x2, .int x3, .int x4, .int (z0 + y)] (v.toList ++ []) μ' (d + 1) Q) := by
  refine (R_pure0 (ins := .iadd) (len := 1) (loc' := [.ref 48, .int x1, .int x2, .int x3, .int x4, .int x5]) (st' := [.int (z0 + y)]) (by decide +kernel) (fun _ => rfl)).trans ?_
  refine (R_pure0 (ins := .istore 5) (len := 2) (loc' := [.ref 48, .int x1, .int x2, .int x3, .int x4, .int (z0 + y)]) (st' := []) (by decide +kernel) (fun _ => rfl)).trans ?_
  refine (R_pure0 (ins := .aload_n 0) (len := 1) (loc' := [.ref 48, .int x1, .int x2, .int x3, .int x4, .int (z0 + y)]) (st' := [.ref 48]) (by decide +kernel) (fun _ => rfl)).trans ?_
  refine (R_pure0 (ins := .iload 4) (len := 2) (loc' := [.ref 48, .int x1, .int x2, .int x3, .int x4, .int (z0 + y)]) (st' := [.int x4, .ref 48]) (by decide +kernel) (fun _ => rfl)).trans ?_
  refine (R_virt (i := 64) (f := 38) (kd := 0) (na := 1) (ml := 2) (ci := 3) (n := 3) (b := 48) (As := [.int x4]) (rest := []) (by decide +kernel) (by decide +kernel) (by decide) (by decide +kernel) rfl (by decide +kernel) rfl rfl (by decide +kernel) (Nat.le_of_ble_eq_true rfl)).trans ?_
  rfl
theorem s43_70 {L : Nat} {mi : Nat → Nat → Int32} {ml : Nat → Nat → Int64} {d : Nat} {Q : Option Value → xM → Prop} {x1 x2 x3 x4 x5 : Int32} : X 43 70 [.ref 48, .int x1, .int x2, .int x3, .int x4, .int x5] [] (SH L, mi, ml, MR) d Q =
    if (x3 = (-9)) then (X 43 6 [.ref 48, .int x1, .int x2, .int x5, .int (x4 + 1), .int x5] [] (SH L, mi, ml, MR) d Q) else (if (x2 = 0) then (if (x5 < x3) then (X 43 6 [.ref 48, .int x1, .int x2, .int x5, .int (x4 + 1), .int x5] [] (SH L, mi, ml, MR) d Q) else (X 43 6 [.ref 48, .int x1, .int x2, .int x3, .int (x4 + 1), .int x5] [] (SH L, mi, ml, MR) d Q)) else (if (x3 < x5) then (X 43 6 [.ref 48, .int x1, .int x2, .int x5, .int (x4 + 1), .int x5] [] (SH L, mi, ml, MR) d Q) else (X 43 6 [.ref 48, .int x1, .int x2, .int x3, .int (x4 + 1), .int x5] [] (SH L, mi, ml, MR) d Q))) := by
  refine (R_pure0 (ins := .iload_n 3) (len := 1) (loc' := [.ref 48, .int x1, .int x2, .int x3, .int x4, .int x5]) (st' := [.int x3]) (by decide +kernel) (fun _ => rfl)).trans ?_
  refine (R_bipush (n := (-9)) (v := (-9)) (by decide +kernel) (by decide +kernel)).trans ?_
  refine (R_icmp_eq (off := 22) (t := 95) (by decide +kernel) (by decide +kernel)).trans (ite_congr rfl (fun c0 => ?_) (fun c0 => ?_))
  · refine (R_pure0 (ins := .iload 5) (len := 2) (loc' := [.ref 48, .int x1, .int x2, .int x3, .int x4, .int x5]) (st' := [.int x5]) (by decide +kernel) (fun _ => rfl)).trans ?_
    refine (R_pure0 (ins := .istore_n 3) (len := 1) (loc' := [.ref 48, .int x1, .int x2, .int x5, .int x4, .int x5]) (st' := []) (by decide +kernel) (fun _ => rfl)).trans ?_
    refine (R_iinc (k := 4) (n := 1) (x := x4) (v := (x4 + 1)) (loc' := [.ref 48, .int x1, .int x2, .int x5, .int (x4 + 1), .int x5]) (by decide +kernel) rfl rfl rfl).trans ?_
    refine (R_goto (off := (-95)) (t := 6) (by decide +kernel) (by decide +kernel)).trans ?_
    rfl
  · refine (R_pure0 (ins := .iload_n 2) (len := 1) (loc' := [.ref 48, .int x1, .int x2, .int x3, .int x4, .int x5]) (st' := [.int x2]) (by decide +kernel) (fun _ => rfl)).trans ?_
    refine (R_if_eq (off := 12) (t := 89) (by decide +kernel) (by decide +kernel)).trans (ite_congr rfl (fun c1 => ?_) (fun c1 => ?_))
    · refine (R_pure0 (ins := .iload 5) (len := 2) (loc' := [.ref 48, .int x1, .int x2, .int x3, .int x4, .int x5]) (st' := [.int x5]) (by decide +kernel) (fun _ => rfl)).trans ?_
      refine (R_pure0 (ins := .iload_n 3) (len := 1) (loc' := [.ref 48, .int x1, .int x2, .int x3, .int x4, .int x5]) (st' := [.int x3, .int x5]) (by decide +kernel) (fun _ => rfl)).trans ?_
      refine (R_icmp_ge (off := 6) (t := 98) (by decide +kernel) (by decide +kernel)).trans (ite_congr rfl (fun c2 => ?_) (fun c2 => ?_))
      · refine (R_pure0 (ins := .iload 5) (len := 2) (loc' := [.ref 48, .int x1, .int x2, .int x3, .int x4, .int x5]) (st' := [.int x5]) (by decide +kernel) (fun _ => rfl)).trans ?_
        refine (R_pure0 (ins := .istore_n 3) (len := 1) (loc' := [.ref 48, .int x1, .int x2, .int x5, .int x4, .int x5]) (st' := []) (by decide +kernel) (fun _ => rfl)).trans ?_
        refine (R_iinc (k := 4) (n := 1) (x := x4) (v := (x4 + 1)) (loc' := [.ref 48, .int x1, .int x2, .int x5, .int (x4 + 1), .int x5]) (by decide +kernel) rfl rfl rfl).trans ?_
        refine (R_goto (off := (-95)) (t := 6) (by decide +kernel) (by decide +kernel)).trans ?_
        rfl
      · refine (R_iinc (k := 4) (n := 1) (x := x4) (v := (x4 + 1)) (loc' := [.ref 48, .int x1, .int x2, .int x3, .int (x4 + 1), .int x5]) (by decide +kernel) rfl rfl rfl).trans ?_
        refine (R_goto (off := (-95)) (t := 6) (by decide +kernel) (by decide +kernel)).trans ?_
        rfl
    · refine (R_pure0 (ins := .iload 5) (len := 2) (loc' := [.ref 48, .int x1, .int x2, .int x3, .int x4, .int x5]) (st' := [.int x5]) (by decide +kernel) (fun _ => rfl)).trans ?_
      refine (R_pure0 (ins := .iload_n 3) (len := 1) (loc' := [.ref 48, .int x1, .int x2, .int x3, .int x4, .int x5]) (st' := [.int x3, .int x5]) (by decide +kernel) (fun _ => rfl)).trans ?_
      refine (R_icmp_le (off := 15) (t := 98) (by decide +kernel) (by decide +kernel)).trans (ite_congr rfl (fun c3 => ?_) (fun c3 => ?_))
      · refine (R_goto (off := 9) (t := 95) (by decide +kernel) (by decide +kernel)).trans ?_
        refine (R_pure0 (ins := .iload 5) (len := 2) (loc' := [.ref 48, .int x1, .int x2, .int x3, .int x4, .int x5]) (st' := [.int x5]) (by decide +kernel) (fun _ => rfl)).trans ?_
        refine (R_pure0 (ins := .istore_n 3) (len := 1) (loc' := [.ref 48, .int x1, .int x2, .int x5, .int x4, .int x5]) (st' := []) (by decide +kernel) (fun _ => rfl)).trans ?_
        refine (R_iinc (k := 4) (n := 1) (x := x4) (v := (x4 + 1)) (loc' := [.ref 48, .int x1, .int x2, .int x5, .int (x4 + 1), .int x5]) (by decide +kernel) rfl rfl rfl).trans ?_
        refine (R_goto (off := (-95)) (t := 6) (by decide +kernel) (by decide +kernel)).trans ?_
        rfl
      · refine (R_iinc (k := 4) (n := 1) (x := x4) (v := (x4 + 1)) (loc' := [.ref 48, .int x1, .int x2, .int x3, .int (x4 + 1), .int x5]) (by decide +kernel) rfl rfl rfl).trans ?_
        refine (R_goto (off := (-95)) (t := 6) (by decide +kernel) (by decide +kernel)).trans ?_
        rfl
theorem s43_6v2 {L : Nat} {mi : Nat → Nat → Int32} {ml : Nat → Nat → Int64} {d : Nat} {Q : Option Value → xM → Prop} {x1 x2 x3 x4 x5 : Int32} : X 43 6 [.ref 48, .int x1, .int x2, .int x3, .int x4, .int x5] [] (SH L, mi, ml, MR) (d + 1) Q =
    if (x4 < 6) then (if ((0 : Int32) < x1) then (Xm 35 [.ref 48, .int x4] (SH L, mi, ml, MR) d (fun v μ' => X 43 23 [.ref 48, .int x1, .int x2, .int x3, .int x4, .int x5] (v.toList ++ []) μ' (d + 1) Q)) else (if (x3 = (-9)) then (Q (some (.int 0)) (SH L, mi, ml, MR)) else (Q (some (.int x3)) (SH L, mi, ml, MR)))) else (if (x3 = (-9)) then (Q (some (.int 0)) (SH L, mi, ml, MR)) else (Q (some (.int x3)) (SH L, mi, ml, MR))) := by
  refine (R_pure0 (ins := .iload 4) (len := 2) (loc' := [.ref 48, .int x1, .int x2, .int x3, .int x4, .int x5]) (st' := [.int x4]) (by decide +kernel) (fun _ => rfl)).trans ?_
  refine (R_bipush (n := 6) (v := 6) (by decide +kernel) (by decide +kernel)).trans ?_
  refine (R_icmp_ge (off := 94) (t := 104) (by decide +kernel) (by decide +kernel)).trans (ite_congr rfl (fun c0 => ?_) (fun c0 => ?_))
  · refine (R_pure0 (ins := .iload_n 1) (len := 1) (loc' := [.ref 48, .int x1, .int x2, .int x3, .int x4, .int x5]) (st' := [.int x1]) (by decide +kernel) (fun _ => rfl)).trans ?_
    refine (R_if_le (off := 90) (t := 104) (by decide +kernel) (by decide +kernel)).trans (ite_congr rfl (fun c1 => ?_) (fun c1 => ?_))
    · refine (R_pure0 (ins := .aload_n 0) (len := 1) (loc' := [.ref 48, .int x1, .int x2, .int x3, .int x4, .int x5]) (st' := [.ref 48]) (by decide +kernel) (fun _ => rfl)).trans ?_
      refine (R_pure0 (ins := .iload 4) (len := 2) (loc' := [.ref 48, .int x1, .int x2, .int x3, .int x4, .int x5]) (st' := [.int x4, .ref 48]) (by decide +kernel) (fun _ => rfl)).trans ?_
      refine (R_virt (i := 45) (f := 35) (kd := 0) (na := 1) (ml := 2) (ci := 3) (n := 3) (b := 48) (As := [.int x4]) (rest := []) (by decide +kernel) (by decide +kernel) (by decide) (by decide +kernel) rfl (by decide +kernel) rfl rfl (by decide +kernel) (Nat.le_of_ble_eq_true rfl)).trans ?_
      rfl
    · refine (R_pure0 (ins := .iload_n 3) (len := 1) (loc' := [.ref 48, .int x1, .int x2, .int x3, .int x4, .int x5]) (st' := [.int x3]) (by decide +kernel) (fun _ => rfl)).trans ?_
      refine (R_bipush (n := (-9)) (v := (-9)) (by decide +kernel) (by decide +kernel)).trans ?_
      refine (R_icmp_ne (off := 7) (t := 114) (by decide +kernel) (by decide +kernel)).trans (ite_congr rfl (fun c2 => ?_) (fun c2 => ?_))
      · refine (R_iconst (n := 0) (v := 0) (by decide +kernel) (by decide +kernel)).trans ?_
        refine (R_goto (off := 4) (t := 115) (by decide +kernel) (by decide +kernel)).trans ?_
        exact R_ireturn (by decide +kernel) (by decide +kernel)
      · refine (R_pure0 (ins := .iload_n 3) (len := 1) (loc' := [.ref 48, .int x1, .int x2, .int x3, .int x4, .int x5]) (st' := [.int x3]) (by decide +kernel) (fun _ => rfl)).trans ?_
        exact R_ireturn (by decide +kernel) (by decide +kernel)
  · refine (R_pure0 (ins := .iload_n 3) (len := 1) (loc' := [.ref 48, .int x1, .int x2, .int x3, .int x4, .int x5]) (st' := [.int x3]) (by decide +kernel) (fun _ => rfl)).trans ?_
    refine (R_bipush (n := (-9)) (v := (-9)) (by decide +kernel) (by decide +kernel)).trans ?_
    refine (R_icmp_ne (off := 7) (t := 114) (by decide +kernel) (by decide +kernel)).trans (ite_congr rfl (fun c3 => ?_) (fun c3 => ?_))
    · refine (R_iconst (n := 0) (v := 0) (by decide +kernel) (by decide +kernel)).trans ?_
      refine (R_goto (off := 4) (t := 115) (by decide +kernel) (by decide +kernel)).trans ?_
      exact R_ireturn (by decide +kernel) (by decide +kernel)
    · refine (R_pure0 (ins := .iload_n 3) (len := 1) (loc' := [.ref 48, .int x1, .int x2, .int x3, .int x4, .int x5]) (st' := [.int x3]) (by decide +kernel) (fun _ => rfl)).trans ?_
      exact R_ireturn (by decide +kernel) (by decide +kernel)
theorem s43_23v2 {L : Nat} {mi : Nat → Nat → Int32} {ml : Nat → Nat → Int64} {d : Nat} {Q : Option Value → xM → Prop} {x1 x2 x3 x4 x5 y : Int32} : X 43 23 [.ref 48, .int x1, .int x2, .int x3, .int x4, .int x5] [.int y] (SH L, mi, ml, MR) (d + 1) Q =
    if (y = 0) then (X 43 6 [.ref 48, .int x1, .int x2, .int x3, .int (x4 + 1), .int x5] [] (SH L, mi, ml, MR) (d + 1) Q) else (Xm 36 [.ref 48, .int x4] (SH L, mi, ml, MR) d (fun v μ' => X 43 35 [.ref 48, .int x1, .int x2, .int x3, .int x4, .int x5] (v.toList ++ []) μ' (d + 1) Q)) := by
  refine (R_if_ne (off := 6) (t := 29) (by decide +kernel) (by decide +kernel)).trans (ite_congr rfl (fun c0 => ?_) (fun c0 => ?_))
  · refine (R_goto (off := 72) (t := 98) (by decide +kernel) (by decide +kernel)).trans ?_
    refine (R_iinc (k := 4) (n := 1) (x := x4) (v := (x4 + 1)) (loc' := [.ref 48, .int x1, .int x2, .int x3, .int (x4 + 1), .int x5]) (by decide +kernel) rfl rfl rfl).trans ?_
    refine (R_goto (off := (-95)) (t := 6) (by decide +kernel) (by decide +kernel)).trans ?_
    rfl
  · refine (R_pure0 (ins := .aload_n 0) (len := 1) (loc' := [.ref 48, .int x1, .int x2, .int x3, .int x4, .int x5]) (st' := [.ref 48]) (by decide +kernel) (fun _ => rfl)).trans ?_
    refine (R_pure0 (ins := .iload 4) (len := 2) (loc' := [.ref 48, .int x1, .int x2, .int x3, .int x4, .int x5]) (st' := [.int x4, .ref 48]) (by decide +kernel) (fun _ => rfl)).trans ?_
    refine (R_virt (i := 49) (f := 36) (kd := 0) (na := 1) (ml := 3) (ci := 3) (n := 3) (b := 48) (As := [.int x4]) (rest := []) (by decide +kernel) (by decide +kernel) (by decide) (by decide +kernel) rfl (by decide +kernel) rfl rfl (by decide +kernel) (Nat.le_of_ble_eq_true rfl)).trans ?_
    rfl
theorem s43_35v2 {L : Nat} {mi : Nat → Nat → Int32} {ml : Nat → Nat → Int64} {d : Nat} {Q : Option Value → xM → Prop} {x1 x2 x3 x4 x5 y : Int32} : X 43 35 [.ref 48, .int x1, .int x2, .int x3, .int x4, .int x5] [.int y] (SH L, mi, ml, MR) (d + 1) Q =
    Xm 37 [.ref 48, .int x4] (SH L, mi, ml, MR) d (fun v μ' => X 43 43 [.ref 48, .int x1, .int x2, .int x3, .int x4, .int y] (v.toList ++ []) μ' (d + 1) Q) := by
  refine (R_pure0 (ins := .istore 5) (len := 2) (loc' := [.ref 48, .int x1, .int x2, .int x3, .int x4, .int y]) (st' := []) (by decide +kernel) (fun _ => rfl)).trans ?_
  refine (R_pure0 (ins := .aload_n 0) (len := 1) (loc' := [.ref 48, .int x1, .int x2, .int x3, .int x4, .int y]) (st' := [.ref 48]) (by decide +kernel) (fun _ => rfl)).trans ?_
  refine (R_pure0 (ins := .iload 4) (len := 2) (loc' := [.ref 48, .int x1, .int x2, .int x3, .int x4, .int y]) (st' := [.int x4, .ref 48]) (by decide +kernel) (fun _ => rfl)).trans ?_
  refine (R_virt (i := 60) (f := 37) (kd := 0) (na := 1) (ml := 2) (ci := 3) (n := 3) (b := 48) (As := [.int x4]) (rest := []) (by decide +kernel) (by decide +kernel) (by decide) (by decide +kernel) rfl (by decide +kernel) rfl rfl (by decide +kernel) (Nat.le_of_ble_eq_true rfl)).trans ?_
  rfl
theorem s69 {L : Nat} {mi : Nat → Nat → Int32} {ml : Nat → Nat → Int64} {d : Nat} {Q : Option Value → xM → Prop} : Xm 69 [.ref 51] (SH L, mi, ml, MR) d Q =
    Q (some (.int (mi 51 8))) (SH L, mi, ml, MR) := by
  rw [Xm_ent (n := 1) (loc := [.ref 51]) (by decide +kernel) rfl]
  refine (R_pure0 (ins := .aload_n 0) (len := 1) (loc' := [.ref 51]) (st' := [.ref 51]) (by decide +kernel) (fun _ => rfl)).trans ?_
  refine (R_gi (i := 36) (ci := 6) (k := 8) (n := 12) (by decide +kernel) (by decide +kernel) (by decide) rfl).trans ?_
  exact R_ireturn (by decide +kernel) (by decide +kernel)
theorem s70 {L : Nat} {mi : Nat → Nat → Int32} {ml : Nat → Nat → Int64} {d : Nat} {Q : Option Value → xM → Prop} : Xm 70 [.ref 51] (SH L, mi, ml, MR) d Q =
    Q (some (.int (mi 51 9))) (SH L, mi, ml, MR) := by
  rw [Xm_ent (n := 1) (loc := [.ref 51]) (by decide +kernel) rfl]
  refine (R_pure0 (ins := .aload_n 0) (len := 1) (loc' := [.ref 51]) (st' := [.ref 51]) (by decide +kernel) (fun _ => rfl)).trans ?_
  refine (R_gi (i := 39) (ci := 6) (k := 9) (n := 12) (by decide +kernel) (by decide +kernel) (by decide) rfl).trans ?_
  exact R_ireturn (by decide +kernel) (by decide +kernel)
theorem s71 {L : Nat} {mi : Nat → Nat → Int32} {ml : Nat → Nat → Int64} {d : Nat} {Q : Option Value → xM → Prop} : Xm 71 [.ref 51] (SH L, mi, ml, MR) d Q =
    Q (some (.int (mi 51 10))) (SH L, mi, ml, MR) := by
  rw [Xm_ent (n := 1) (loc := [.ref 51]) (by decide +kernel) rfl]
  refine (R_pure0 (ins := .aload_n 0) (len := 1) (loc' := [.ref 51]) (st' := [.ref 51]) (by decide +kernel) (fun _ => rfl)).trans ?_
  refine (R_gi (i := 42) (ci := 6) (k := 10) (n := 12) (by decide +kernel) (by decide +kernel) (by decide) rfl).trans ?_
  exact R_ireturn (by decide +kernel) (by decide +kernel)
theorem s72 {L : Nat} {mi : Nat → Nat → Int32} {ml : Nat → Nat → Int64} {d : Nat} {Q : Option Value → xM → Prop} : Xm 72 [.ref 51] (SH L, mi, ml, MR) d Q =
    Q (some (.int (mi 51 11))) (SH L, mi, ml, MR) := by
  rw [Xm_ent (n := 1) (loc := [.ref 51]) (by decide +kernel) rfl]
  refine (R_pure0 (ins := .aload_n 0) (len := 1) (loc' := [.ref 51]) (st' := [.ref 51]) (by decide +kernel) (fun _ => rfl)).trans ?_
  refine (R_gi (i := 45) (ci := 6) (k := 11) (n := 12) (by decide +kernel) (by decide +kernel) (by decide) rfl).trans ?_
  exact R_ireturn (by decide +kernel) (by decide +kernel)
theorem s73 {L : Nat} {mi : Nat → Nat → Int32} {ml : Nat → Nat → Int64} {d : Nat} {Q : Option Value → xM → Prop} : Xm 73 [.ref 51] (SH L, mi, ml, MR) d Q =
    Q (some (.ref 56)) (SH L, mi, ml, MR) := by
  rw [Xm_ent (n := 1) (loc := [.ref 51]) (by decide +kernel) rfl]
  refine (R_pure0 (ins := .aload_n 0) (len := 1) (loc' := [.ref 51]) (st' := [.ref 51]) (by decide +kernel) (fun _ => rfl)).trans ?_
  refine (R_gr (i := 23) (ci := 6) (k := 4) (n := 12) (b := 56) (by decide +kernel) (by decide +kernel) (by decide) rfl (SH_ref (by decide +kernel))).trans ?_
  exact R_areturn (nm := "BeanVoices$Strip") (by decide +kernel) (by decide +kernel)
theorem s74 {L : Nat} {mi : Nat → Nat → Int32} {ml : Nat → Nat → Int64} {d : Nat} {Q : Option Value → xM → Prop} {r1 : Nat} {n_r1 : Nat} (hS_r1 : isStrip L r1 n_r1) : Xm 74 [.ref 51, .ref r1] (SH L, mi, ml, MR) (d + 1) Q =
    Xm 97 [.ref 52, .ref r1] (SH L, mi, ml, MR) d (fun v μ' => X 74 8 [.ref 51, .ref r1] (v.toList ++ []) μ' (d + 1) Q) := by
  rw [Xm_ent (n := 2) (loc := [.ref 51, .ref r1]) (by decide +kernel) rfl]
  refine (R_pure0 (ins := .aload_n 0) (len := 1) (loc' := [.ref 51, .ref r1]) (st' := [.ref 51]) (by decide +kernel) (fun _ => rfl)).trans ?_
  refine (R_gr (i := 14) (ci := 6) (k := 2) (n := 12) (b := 52) (by decide +kernel) (by decide +kernel) (by decide) rfl (SH_ref (by decide +kernel))).trans ?_
  refine (R_pure0 (ins := .aload_n 1) (len := 1) (loc' := [.ref 51, .ref r1]) (st' := [.ref r1, .ref 52]) (by decide +kernel) (fun _ => rfl)).trans ?_
  refine (R_virt (i := 56) (f := 97) (kd := 0) (na := 1) (ml := 2) (ci := 8) (n := 2) (b := 52) (As := [.ref r1]) (rest := []) (by decide +kernel) (by decide +kernel) (by decide) (by decide +kernel) rfl (by decide +kernel) rfl rfl (by decide +kernel) (Nat.le_of_ble_eq_true rfl)).trans ?_
  rfl
theorem s74n {L : Nat} {mi : Nat → Nat → Int32} {ml : Nat → Nat → Int64} {d : Nat} {Q : Option Value → xM → Prop} : Xm 74 [.ref 51, .null] (SH L, mi, ml, MR) (d + 1) Q =
    Xm 97 [.ref 52, .null] (SH L, mi, ml, MR) d (fun v μ' => X 74 8 [.ref 51, .null] (v.toList ++ []) μ' (d + 1) Q) := by
  rw [Xm_ent (n := 2) (loc := [.ref 51, .null]) (by decide +kernel) rfl]
  refine (R_pure0 (ins := .aload_n 0) (len := 1) (loc' := [.ref 51, .null]) (st' := [.ref 51]) (by decide +kernel) (fun _ => rfl)).trans ?_
  refine (R_gr (i := 14) (ci := 6) (k := 2) (n := 12) (b := 52) (by decide +kernel) (by decide +kernel) (by decide) rfl (SH_ref (by decide +kernel))).trans ?_
  refine (R_pure0 (ins := .aload_n 1) (len := 1) (loc' := [.ref 51, .null]) (st' := [.null, .ref 52]) (by decide +kernel) (fun _ => rfl)).trans ?_
  refine (R_virt (i := 56) (f := 97) (kd := 0) (na := 1) (ml := 2) (ci := 8) (n := 2) (b := 52) (As := [.null]) (rest := []) (by decide +kernel) (by decide +kernel) (by decide) (by decide +kernel) rfl (by decide +kernel) rfl rfl (by decide +kernel) (Nat.le_of_ble_eq_true rfl)).trans ?_
  rfl
theorem s74_8 {L : Nat} {mi : Nat → Nat → Int32} {ml : Nat → Nat → Int64} {d : Nat} {Q : Option Value → xM → Prop} {r1 : Nat} {n_r1 : Nat} (hS_r1 : isStrip L r1 n_r1) : X 74 8 [.ref 51, .ref r1] [] (SH L, mi, ml, MR) d Q =
    Q none (SH L, mi, ml, MR) := by
  exact R_return (by decide +kernel) (by decide +kernel)
theorem s74_8v2 {L : Nat} {mi : Nat → Nat → Int32} {ml : Nat → Nat → Int64} {d : Nat} {Q : Option Value → xM → Prop} : X 74 8 [.ref 51, .null] [] (SH L, mi, ml, MR) d Q =
    Q none (SH L, mi, ml, MR) := by
  exact R_return (by decide +kernel) (by decide +kernel)
theorem s75 {L : Nat} {mi : Nat → Nat → Int32} {ml : Nat → Nat → Int64} {d : Nat} {Q : Option Value → xM → Prop} : Xm 75 [.ref 51] (SH L, mi, ml, MR) (d + 1) Q =
    Xm 34 [.ref 48] (SH L, mi, ml, MR) d (fun v μ' => X 75 7 [.ref 51] (v.toList ++ []) μ' (d + 1) Q) := by
  rw [Xm_ent (n := 1) (loc := [.ref 51]) (by decide +kernel) rfl]
  refine (R_pure0 (ins := .aload_n 0) (len := 1) (loc' := [.ref 51]) (st' := [.ref 51]) (by decide +kernel) (fun _ => rfl)).trans ?_
  refine (R_gr (i := 52) (ci := 6) (k := 1) (n := 12) (b := 48) (by decide +kernel) (by decide +kernel) (by decide) rfl (SH_ref (by decide +kernel))).trans ?_
  refine (R_virt (i := 60) (f := 34) (kd := 0) (na := 0) (ml := 3) (ci := 3) (n := 3) (b := 48) (As := []) (rest := []) (by decide +kernel) (by decide +kernel) (by decide) (by decide +kernel) rfl (by decide +kernel) rfl rfl (by decide +kernel) (Nat.le_of_ble_eq_true rfl)).trans ?_
  rfl
theorem s75_7 {L : Nat} {mi : Nat → Nat → Int32} {ml : Nat → Nat → Int64} {d : Nat} {Q : Option Value → xM → Prop} : X 75 7 [.ref 51] [] (SH L, mi, ml, MR) (d + 1) Q =
    Xm 76 [.ref 51, .int 0, .int 0, .int (-9)] (SH L, (xw (xw (xw (xw mi 51 8 0) 51 9 0) 51 10 0) 51 11 (-9)), ml, MR) d (fun v μ' => X 75 36 [.ref 51] (v.toList ++ []) μ' (d + 1) Q) := by
  refine (R_pure0 (ins := .aload_n 0) (len := 1) (loc' := [.ref 51]) (st' := [.ref 51]) (by decide +kernel) (fun _ => rfl)).trans ?_
  refine (R_iconst (n := 0) (v := 0) (by decide +kernel) (by decide +kernel)).trans ?_
  refine (R_pi (i := 36) (ci := 6) (k := 8) (n := 12) (by decide +kernel) (by decide +kernel) (by decide) rfl).trans ?_
  refine (R_pure0 (ins := .aload_n 0) (len := 1) (loc' := [.ref 51]) (st' := [.ref 51]) (by decide +kernel) (fun _ => rfl)).trans ?_
  refine (R_iconst (n := 0) (v := 0) (by decide +kernel) (by decide +kernel)).trans ?_
  refine (R_pi (i := 39) (ci := 6) (k := 9) (n := 12) (by decide +kernel) (by decide +kernel) (by decide) rfl).trans ?_
  refine (R_pure0 (ins := .aload_n 0) (len := 1) (loc' := [.ref 51]) (st' := [.ref 51]) (by decide +kernel) (fun _ => rfl)).trans ?_
  refine (R_iconst (n := 0) (v := 0) (by decide +kernel) (by decide +kernel)).trans ?_
  refine (R_pi (i := 42) (ci := 6) (k := 10) (n := 12) (by decide +kernel) (by decide +kernel) (by decide) rfl).trans ?_
  refine (R_pure0 (ins := .aload_n 0) (len := 1) (loc' := [.ref 51]) (st' := [.ref 51]) (by decide +kernel) (fun _ => rfl)).trans ?_
  refine (R_bipush (n := (-9)) (v := (-9)) (by decide +kernel) (by decide +kernel)).trans ?_
  refine (R_pi (i := 45) (ci := 6) (k := 11) (n := 12) (by decide +kernel) (by decide +kernel) (by decide) rfl).trans ?_
  refine (R_pure0 (ins := .aload_n 0) (len := 1) (loc' := [.ref 51]) (st' := [.ref 51]) (by decide +kernel) (fun _ => rfl)).trans ?_
  refine (R_iconst (n := 0) (v := 0) (by decide +kernel) (by decide +kernel)).trans ?_
  refine (R_iconst (n := 0) (v := 0) (by decide +kernel) (by decide +kernel)).trans ?_
  refine (R_bipush (n := (-9)) (v := (-9)) (by decide +kernel) (by decide +kernel)).trans ?_
  refine (R_virt (i := 65) (f := 76) (kd := 0) (na := 3) (ml := 5) (ci := 6) (n := 12) (b := 51) (As := [.int 0, .int 0, .int (-9)]) (rest := []) (by decide +kernel) (by decide +kernel) (by decide) (by decide +kernel) rfl (by decide +kernel) rfl rfl (by decide +kernel) (Nat.le_of_ble_eq_true rfl)).trans ?_
  rfl
theorem s75_36 {L : Nat} {mi : Nat → Nat → Int32} {ml : Nat → Nat → Int64} {d : Nat} {Q : Option Value → xM → Prop} : X 75 36 [.ref 51] [] (SH L, mi, ml, MR) d Q =
    Q none (SH L, mi, ml, MR) := by
  exact R_return (by decide +kernel) (by decide +kernel)
theorem s76 {L : Nat} {mi : Nat → Nat → Int32} {ml : Nat → Nat → Int64} {d : Nat} {Q : Option Value → xM → Prop} {x1 x2 x3 : Int32} : Xm 76 [.ref 51, .int x1, .int x2, .int x3] (SH L, mi, ml, MR) (d + 1) Q =
    Xm 88 [.ref 52] (SH L, mi, ml, MR) d (fun v μ' => X 76 8 [.ref 51, .int x1, .int x2, .int x3, xmk] (v.toList ++ [.int x1]) μ' (d + 1) Q) := by
  rw [Xm_ent (n := 5) (loc := [.ref 51, .int x1, .int x2, .int x3, xmk]) (by decide +kernel) rfl]
  refine (R_pure0 (ins := .iload_n 1) (len := 1) (loc' := [.ref 51, .int x1, .int x2, .int x3, xmk]) (st' := [.int x1]) (by decide +kernel) (fun _ => rfl)).trans ?_
  refine (R_pure0 (ins := .aload_n 0) (len := 1) (loc' := [.ref 51, .int x1, .int x2, .int x3, xmk]) (st' := [.ref 51, .int x1]) (by decide +kernel) (fun _ => rfl)).trans ?_
  refine (R_gr (i := 14) (ci := 6) (k := 2) (n := 12) (b := 52) (by decide +kernel) (by decide +kernel) (by decide) rfl (SH_ref (by decide +kernel))).trans ?_
  refine (R_virt (i := 69) (f := 88) (kd := 0) (na := 0) (ml := 1) (ci := 8) (n := 2) (b := 52) (As := []) (rest := [.int x1]) (by decide +kernel) (by decide +kernel) (by decide) (by decide +kernel) rfl (by decide +kernel) rfl rfl (by decide +kernel) (Nat.le_of_ble_eq_true rfl)).trans ?_
  rfl
theorem s76_8 {L : Nat} {mi : Nat → Nat → Int32} {ml : Nat → Nat → Int64} {d : Nat} {Q : Option Value → xM → Prop} {x1 x2 x3 y z0 : Int32} : X 76 8 [.ref 51, .int x1, .int x2, .int x3, xmk] [.int y, .int z0] (SH L, mi, ml, MR) d Q =
    if (z0 < y) then (X 76 75 [.ref 51, .int x1, .int x2, .int x3, .int 0] [] (SH L, mi, ml, MR) d Q) else (if ((mi 51 8) = 0) then (if (((xw mi 51 11 x3) 51 8) = 0) then (Q none (SH L, (xw (xw (xw (xw mi 51 11 x3) 51 9 x2) 51 10 (((xw (xw mi 51 11 x3) 51 9 x2) 51 10) ||| x2)) 51 8 (((xw (xw (xw mi 51 11 x3) 51 9 x2) 51 10 (((xw (xw mi 51 11 x3) 51 9 x2) 51 10) ||| x2)) 51 8) + 1)), ml, MR)) else (Q none (SH L, (xw (xw (xw (xw mi 51 11 x3) 51 9 (((xw mi 51 11 x3) 51 9) &&& x2)) 51 10 (((xw (xw mi 51 11 x3) 51 9 (((xw mi 51 11 x3) 51 9) &&& x2)) 51 10) ||| x2)) 51 8 (((xw (xw (xw mi 51 11 x3) 51 9 (((xw mi 51 11 x3) 51 9) &&& x2)) 51 10 (((xw (xw mi 51 11 x3) 51 9 (((xw mi 51 11 x3) 51 9) &&& x2)) 51 10) ||| x2)) 51 8) + 1)), ml, MR))) else (if (((xw mi 51 11 (mi 51 11)) 51 8) = 0) then (Q none (SH L, (xw (xw (xw (xw mi 51 11 (mi 51 11)) 51 9 x2) 51 10 (((xw (xw mi 51 11 (mi 51 11)) 51 9 x2) 51 10) ||| x2)) 51 8 (((xw (xw (xw mi 51 11 (mi 51 11)) 51 9 x2) 51 10 (((xw (xw mi 51 11 (mi 51 11)) 51 9 x2) 51 10) ||| x2)) 51 8) + 1)), ml, MR)) else (Q none (SH L, (xw (xw (xw (xw mi 51 11 (mi 51 11)) 51 9 (((xw mi 51 11 (mi 51 11)) 51 9) &&& x2)) 51 10 (((xw (xw mi 51 11 (mi 51 11)) 51 9 (((xw mi 51 11 (mi 51 11)) 51 9) &&& x2)) 51 10) ||| x2)) 51 8 (((xw (xw (xw mi 51 11 (mi 51 11)) 51 9 (((xw mi 51 11 (mi 51 11)) 51 9) &&& x2)) 51 10 (((xw (xw mi 51 11 (mi 51 11)) 51 9 (((xw mi 51 11 (mi 51 11)) 51 9) &&& x2)) 51 10) ||| x2)) 51 8) + 1)), ml, MR)))) := by
  refine (R_icmp_lt (off := 64) (t := 72) (by decide +kernel) (by decide +kernel)).trans (ite_congr rfl (fun c0 => ?_) (fun c0 => ?_))
  · refine (R_iconst (n := 0) (v := 0) (by decide +kernel) (by decide +kernel)).trans ?_
    refine (R_pure0 (ins := .istore 4) (len := 2) (loc' := [.ref 51, .int x1, .int x2, .int x3, .int 0]) (st' := []) (by decide +kernel) (fun _ => rfl)).trans ?_
    rfl
  · refine (R_pure0 (ins := .aload_n 0) (len := 1) (loc' := [.ref 51, .int x1, .int x2, .int x3, xmk]) (st' := [.ref 51]) (by decide +kernel) (fun _ => rfl)).trans ?_
    refine (R_pure0 (ins := .aload_n 0) (len := 1) (loc' := [.ref 51, .int x1, .int x2, .int x3, xmk]) (st' := [.ref 51, .ref 51]) (by decide +kernel) (fun _ => rfl)).trans ?_
    refine (R_gi (i := 36) (ci := 6) (k := 8) (n := 12) (by decide +kernel) (by decide +kernel) (by decide) rfl).trans ?_
    refine (R_if_ne (off := 7) (t := 23) (by decide +kernel) (by decide +kernel)).trans (ite_congr rfl (fun c1 => ?_) (fun c1 => ?_))
    · refine (R_pure0 (ins := .iload_n 3) (len := 1) (loc' := [.ref 51, .int x1, .int x2, .int x3, xmk]) (st' := [.int x3, .ref 51]) (by decide +kernel) (fun _ => rfl)).trans ?_
      refine (R_goto (off := 7) (t := 27) (by decide +kernel) (by decide +kernel)).trans ?_
      refine (R_pi (i := 45) (ci := 6) (k := 11) (n := 12) (by decide +kernel) (by decide +kernel) (by decide) rfl).trans ?_
      refine (R_pure0 (ins := .aload_n 0) (len := 1) (loc' := [.ref 51, .int x1, .int x2, .int x3, xmk]) (st' := [.ref 51]) (by decide +kernel) (fun _ => rfl)).trans ?_
      refine (R_pure0 (ins := .aload_n 0) (len := 1) (loc' := [.ref 51, .int x1, .int x2, .int x3, xmk]) (st' := [.ref 51, .ref 51]) (by decide +kernel) (fun _ => rfl)).trans ?_
      refine (R_gi (i := 36) (ci := 6) (k := 8) (n := 12) (by decide +kernel) (by decide +kernel) (by decide) rfl).trans ?_
      refine (R_if_ne (off := 7) (t := 42) (by decide +kernel) (by decide +kernel)).trans (ite_congr rfl (fun c2 => ?_) (fun c2 => ?_))
      · refine (R_pure0 (ins := .iload_n 2) (len := 1) (loc' := [.ref 51, .int x1, .int x2, .int x3, xmk]) (st' := [.int x2, .ref 51]) (by decide +kernel) (fun _ => rfl)).trans ?_
        refine (R_goto (off := 9) (t := 48) (by decide +kernel) (by decide +kernel)).trans ?_
        refine (R_pi (i := 39) (ci := 6) (k := 9) (n := 12) (by decide +kernel) (by decide +kernel) (by decide) rfl).trans ?_
        refine (R_pure0 (ins := .aload_n 0) (len := 1) (loc' := [.ref 51, .int x1, .int x2, .int x3, xmk]) (st' := [.ref 51]) (by decide +kernel) (fun _ => rfl)).trans ?_
        refine (R_pure0 (ins := .dup) (len := 1) (loc' := [.ref 51, .int x1, .int x2, .int x3, xmk]) (st' := [.ref 51, .ref 51]) (by decide +kernel) (fun _ => rfl)).trans ?_
        refine (R_gi (i := 42) (ci := 6) (k := 10) (n := 12) (by decide +kernel) (by decide +kernel) (by decide) rfl).trans ?_
        refine (R_pure0 (ins := .iload_n 2) (len := 1) (loc' := [.ref 51, .int x1, .int x2, .int x3, xmk]) (st' := [.int x2, .int ((xw (xw mi 51 11 x3) 51 9 x2) 51 10), .ref 51]) (by decide +kernel) (fun _ => rfl)).trans ?_
        refine (R_pure0 (ins := .ior) (len := 1) (loc' := [.ref 51, .int x1, .int x2, .int x3, xmk]) (st' := [.int (((xw (xw mi 51 11 x3) 51 9 x2) 51 10) ||| x2), .ref 51]) (by decide +kernel) (fun _ => rfl)).trans ?_
        refine (R_pi (i := 42) (ci := 6) (k := 10) (n := 12) (by decide +kernel) (by decide +kernel) (by decide) rfl).trans ?_
        refine (R_pure0 (ins := .aload_n 0) (len := 1) (loc' := [.ref 51, .int x1, .int x2, .int x3, xmk]) (st' := [.ref 51]) (by decide +kernel) (fun _ => rfl)).trans ?_
        refine (R_pure0 (ins := .dup) (len := 1) (loc' := [.ref 51, .int x1, .int x2, .int x3, xmk]) (st' := [.ref 51, .ref 51]) (by decide +kernel) (fun _ => rfl)).trans ?_
        refine (R_gi (i := 36) (ci := 6) (k := 8) (n := 12) (by decide +kernel) (by decide +kernel) (by decide) rfl).trans ?_
        refine (R_iconst (n := 1) (v := 1) (by decide +kernel) (by decide +kernel)).trans ?_
        refine (R_pure0 (ins := .iadd) (len := 1) (loc' := [.ref 51, .int x1, .int x2, .int x3, xmk]) (st' := [.int (((xw (xw (xw mi 51 11 x3) 51 9 x2) 51 10 (((xw (xw mi 51 11 x3) 51 9 x2) 51 10) ||| x2)) 51 8) + 1), .ref 51]) (by decide +kernel) (fun _ => rfl)).trans ?_
        refine (R_pi (i := 36) (ci := 6) (k := 8) (n := 12) (by decide +kernel) (by decide +kernel) (by decide) rfl).trans ?_
        exact R_return (by decide +kernel) (by decide +kernel)
      · refine (R_pure0 (ins := .aload_n 0) (len := 1) (loc' := [.ref 51, .int x1, .int x2, .int x3, xmk]) (st' := [.ref 51, .ref 51]) (by decide +kernel) (fun _ => rfl)).trans ?_
        refine (R_gi (i := 39) (ci := 6) (k := 9) (n := 12) (by decide +kernel) (by decide +kernel) (by decide) rfl).trans ?_
        refine (R_pure0 (ins := .iload_n 2) (len := 1) (loc' := [.ref 51, .int x1, .int x2, .int x3, xmk]) (st' := [.int x2, .int ((xw mi 51 11 x3) 51 9), .ref 51]) (by decide +kernel) (fun _ => rfl)).trans ?_
        refine (R_pure0 (ins := .iand) (len := 1) (loc' := [.ref 51, .int x1, .int x2, .int x3, xmk]) (st' := [.int (((xw mi 51 11 x3) 51 9) &&& x2), .ref 51]) (by decide +kernel) (fun _ => rfl)).trans ?_
        refine (R_pi (i := 39) (ci := 6) (k := 9) (n := 12) (by decide +kernel) (by decide +kernel) (by decide) rfl).trans ?_
        refine (R_pure0 (ins := .aload_n 0) (len := 1) (loc' := [.ref 51, .int x1, .int x2, .int x3, xmk]) (st' := [.ref 51]) (by decide +kernel) (fun _ => rfl)).trans ?_
        refine (R_pure0 (ins := .dup) (len := 1) (loc' := [.ref 51, .int x1, .int x2, .int x3, xmk]) (st' := [.ref 51, .ref 51]) (by decide +kernel) (fun _ => rfl)).trans ?_
        refine (R_gi (i := 42) (ci := 6) (k := 10) (n := 12) (by decide +kernel) (by decide +kernel) (by decide) rfl).trans ?_
        refine (R_pure0 (ins := .iload_n 2) (len := 1) (loc' := [.ref 51, .int x1, .int x2, .int x3, xmk]) (st' := [.int x2, .int ((xw (xw mi 51 11 x3) 51 9 (((xw mi 51 11 x3) 51 9) &&& x2)) 51 10), .ref 51]) (by decide +kernel) (fun _ => rfl)).trans ?_
        refine (R_pure0 (ins := .ior) (len := 1) (loc' := [.ref 51, .int x1, .int x2, .int x3, xmk]) (st' := [.int (((xw (xw mi 51 11 x3) 51 9 (((xw mi 51 11 x3) 51 9) &&& x2)) 51 10) ||| x2), .ref 51]) (by decide +kernel) (fun _ => rfl)).trans ?_
        refine (R_pi (i := 42) (ci := 6) (k := 10) (n := 12) (by decide +kernel) (by decide +kernel) (by decide) rfl).trans ?_
        refine (R_pure0 (ins := .aload_n 0) (len := 1) (loc' := [.ref 51, .int x1, .int x2, .int x3, xmk]) (st' := [.ref 51]) (by decide +kernel) (fun _ => rfl)).trans ?_
        refine (R_pure0 (ins := .dup) (len := 1) (loc' := [.ref 51, .int x1, .int x2, .int x3, xmk]) (st' := [.ref 51, .ref 51]) (by decide +kernel) (fun _ => rfl)).trans ?_
        refine (R_gi (i := 36) (ci := 6) (k := 8) (n := 12) (by decide +kernel) (by decide +kernel) (by decide) rfl).trans ?_
        refine (R_iconst (n := 1) (v := 1) (by decide +kernel) (by decide +kernel)).trans ?_
        refine (R_pure0 (ins := .iadd) (len := 1) (loc' := [.ref 51, .int x1, .int x2, .int x3, xmk]) (st' := [.int (((xw (xw (xw mi 51 11 x3) 51 9 (((xw mi 51 11 x3) 51 9) &&& x2)) 51 10 (((xw (xw mi 51 11 x3) 51 9 (((xw mi 51 11 x3) 51 9) &&& x2)) 51 10) ||| x2)) 51 8) + 1), .ref 51]) (by decide +kernel) (fun _ => rfl)).trans ?_
        refine (R_pi (i := 36) (ci := 6) (k := 8) (n := 12) (by decide +kernel) (by decide +kernel) (by decide) rfl).trans ?_
        exact R_return (by decide +kernel) (by decide +kernel)
    · refine (R_pure0 (ins := .aload_n 0) (len := 1) (loc' := [.ref 51, .int x1, .int x2, .int x3, xmk]) (st' := [.ref 51, .ref 51]) (by decide +kernel) (fun _ => rfl)).trans ?_
      refine (R_gi (i := 45) (ci := 6) (k := 11) (n := 12) (by decide +kernel) (by decide +kernel) (by decide) rfl).trans ?_
      refine (R_pi (i := 45) (ci := 6) (k := 11) (n := 12) (by decide +kernel) (by decide +kernel) (by decide) rfl).trans ?_
      refine (R_pure0 (ins := .aload_n 0) (len := 1) (loc' := [.ref 51, .int x1, .int x2, .int x3, xmk]) (st' := [.ref 51]) (by decide +kernel) (fun _ => rfl)).trans ?_
      refine (R_pure0 (ins := .aload_n 0) (len := 1) (loc' := [.ref 51, .int x1, .int x2, .int x3, xmk]) (st' := [.ref 51, .ref 51]) (by decide +kernel) (fun _ => rfl)).trans ?_
      refine (R_gi (i := 36) (ci := 6) (k := 8) (n := 12) (by decide +kernel) (by decide +kernel) (by decide) rfl).trans ?_
      refine (R_if_ne (off := 7) (t := 42) (by decide +kernel) (by decide +kernel)).trans (ite_congr rfl (fun c3 => ?_) (fun c3 => ?_))
      · refine (R_pure0 (ins := .iload_n 2) (len := 1) (loc' := [.ref 51, .int x1, .int x2, .int x3, xmk]) (st' := [.int x2, .ref 51]) (by decide +kernel) (fun _ => rfl)).trans ?_
        refine (R_goto (off := 9) (t := 48) (by decide +kernel) (by decide +kernel)).trans ?_
        refine (R_pi (i := 39) (ci := 6) (k := 9) (n := 12) (by decide +kernel) (by decide +kernel) (by decide) rfl).trans ?_
        refine (R_pure0 (ins := .aload_n 0) (len := 1) (loc' := [.ref 51, .int x1, .int x2, .int x3, xmk]) (st' := [.ref 51]) (by decide +kernel) (fun _ => rfl)).trans ?_
        refine (R_pure0 (ins := .dup) (len := 1) (loc' := [.ref 51, .int x1, .int x2, .int x3, xmk]) (st' := [.ref 51, .ref 51]) (by decide +kernel) (fun _ => rfl)).trans ?_
        refine (R_gi (i := 42) (ci := 6) (k := 10) (n := 12) (by decide +kernel) (by decide +kernel) (by decide) rfl).trans ?_
        refine (R_pure0 (ins := .iload_n 2) (len := 1) (loc' := [.ref 51, .int x1, .int x2, .int x3, xmk]) (st' := [.int x2, .int ((xw (xw mi 51 11 (mi 51 11)) 51 9 x2) 51 10), .ref 51]) (by decide +kernel) (fun _ => rfl)).trans ?_
        refine (R_pure0 (ins := .ior) (len := 1) (loc' := [.ref 51, .int x1, .int x2, .int x3, xmk]) (st' := [.int (((xw (xw mi 51 11 (mi 51 11)) 51 9 x2) 51 10) ||| x2), .ref 51]) (by decide +kernel) (fun _ => rfl)).trans ?_
        refine (R_pi (i := 42) (ci := 6) (k := 10) (n := 12) (by decide +kernel) (by decide +kernel) (by decide) rfl).trans ?_
        refine (R_pure0 (ins := .aload_n 0) (len := 1) (loc' := [.ref 51, .int x1, .int x2, .int x3, xmk]) (st' := [.ref 51]) (by decide +kernel) (fun _ => rfl)).trans ?_
        refine (R_pure0 (ins := .dup) (len := 1) (loc' := [.ref 51, .int x1, .int x2, .int x3, xmk]) (st' := [.ref 51, .ref 51]) (by decide +kernel) (fun _ => rfl)).trans ?_
        refine (R_gi (i := 36) (ci := 6) (k := 8) (n := 12) (by decide +kernel) (by decide +kernel) (by decide) rfl).trans ?_
        refine (R_iconst (n := 1) (v := 1) (by decide +kernel) (by decide +kernel)).trans ?_
        refine (R_pure0 (ins := .iadd) (len := 1) (loc' := [.ref 51, .int x1, .int x2, .int x3, xmk]) (st' := [.int (((xw (xw (xw mi 51 11 (mi 51 11)) 51 9 x2) 51 10 (((xw (xw mi 51 11 (mi 51 11)) 51 9 x2) 51 10) ||| x2)) 51 8) + 1), .ref 51]) (by decide +kernel) (fun _ => rfl)).trans ?_
        refine (R_pi (i := 36) (ci := 6) (k := 8) (n := 12) (by decide +kernel) (by decide +kernel) (by decide) rfl).trans ?_
        exact R_return (by decide +kernel) (by decide +kernel)
      · refine (R_pure0 (ins := .aload_n 0) (len := 1) (loc' := [.ref 51, .int x1, .int x2, .int x3, xmk]) (st' := [.ref 51, .ref 51]) (by decide +kernel) (fun _ => rfl)).trans ?_
        refine (R_gi (i := 39) (ci := 6) (k := 9) (n := 12) (by decide +kernel) (by decide +kernel) (by decide) rfl).trans ?_
        refine (R_pure0 (ins := .iload_n 2) (len := 1) (loc' := [.ref 51, .int x1, .int x2, .int x3, xmk]) (st' := [.int x2, .int ((xw mi 51 11 (mi 51 11)) 51 9), .ref 51]) (by decide +kernel) (fun _ => rfl)).trans ?_
        refine (R_pure0 (ins := .iand) (len := 1) (loc' := [.ref 51, .int x1, .int x2, .int x3, xmk]) (st' := [.int (((xw mi 51 11 (mi 51 11)) 51 9) &&& x2), .ref 51]) (by decide +kernel) (fun _ => rfl)).trans ?_
        refine (R_pi (i := 39) (ci := 6) (k := 9) (n := 12) (by decide +kernel) (by decide +kernel) (by decide) rfl).trans ?_
        refine (R_pure0 (ins := .aload_n 0) (len := 1) (loc' := [.ref 51, .int x1, .int x2, .int x3, xmk]) (st' := [.ref 51]) (by decide +kernel) (fun _ => rfl)).trans ?_
        refine (R_pure0 (ins := .dup) (len := 1) (loc' := [.ref 51, .int x1, .int x2, .int x3, xmk]) (st' := [.ref 51, .ref 51]) (by decide +kernel) (fun _ => rfl)).trans ?_
        refine (R_gi (i := 42) (ci := 6) (k := 10) (n := 12) (by decide +kernel) (by decide +kernel) (by decide) rfl).trans ?_
        refine (R_pure0 (ins := .iload_n 2) (len := 1) (loc' := [.ref 51, .int x1, .int x2, .int x3, xmk]) (st' := [.int x2, .int ((xw (xw mi 51 11 (mi 51 11)) 51 9 (((xw mi 51 11 (mi 51 11)) 51 9) &&& x2)) 51 10), .ref 51]) (by decide +kernel) (fun _ => rfl)).trans ?_
        refine (R_pure0 (ins := .ior) (len := 1) (loc' := [.ref 51, .int x1, .int x2, .int x3, xmk]) (st' := [.int (((xw (xw mi 51 11 (mi 51 11)) 51 9 (((xw mi 51 11 (mi 51 11)) 51 9) &&& x2)) 51 10) ||| x2), .ref 51]) (by decide +kernel) (fun _ => rfl)).trans ?_
        refine (R_pi (i := 42) (ci := 6) (k := 10) (n := 12) (by decide +kernel) (by decide +kernel) (by decide) rfl).trans ?_
        refine (R_pure0 (ins := .aload_n 0) (len := 1) (loc' := [.ref 51, .int x1, .int x2, .int x3, xmk]) (st' := [.ref 51]) (by decide +kernel) (fun _ => rfl)).trans ?_
        refine (R_pure0 (ins := .dup) (len := 1) (loc' := [.ref 51, .int x1, .int x2, .int x3, xmk]) (st' := [.ref 51, .ref 51]) (by decide +kernel) (fun _ => rfl)).trans ?_
        refine (R_gi (i := 36) (ci := 6) (k := 8) (n := 12) (by decide +kernel) (by decide +kernel) (by decide) rfl).trans ?_
        refine (R_iconst (n := 1) (v := 1) (by decide +kernel) (by decide +kernel)).trans ?_
        refine (R_pure0 (ins := .iadd) (len := 1) (loc' := [.ref 51, .int x1, .int x2, .int x3, xmk]) (st' := [.int (((xw (xw (xw mi 51 11 (mi 51 11)) 51 9 (((xw mi 51 11 (mi 51 11)) 51 9) &&& x2)) 51 10 (((xw (xw mi 51 11 (mi 51 11)) 51 9 (((xw mi 51 11 (mi 51 11)) 51 9) &&& x2)) 51 10) ||| x2)) 51 8) + 1), .ref 51]) (by decide +kernel) (fun _ => rfl)).trans ?_
        refine (R_pi (i := 36) (ci := 6) (k := 8) (n := 12) (by decide +kernel) (by decide +kernel) (by decide) rfl).trans ?_
        exact R_return (by decide +kernel) (by decide +kernel)
theorem s76_75 {L : Nat} {mi : Nat → Nat → Int32} {ml : Nat → Nat → Int64} {d : Nat} {Q : Option Value → xM → Prop} {x1 x2 x3 x4 : Int32} : X 76 75 [.ref 51, .int x1, .int x2, .int x3, .int x4] [] (SH L, mi, ml, MR) (d + 1) Q =
    if (x4 < 6) then (Xm 35 [.ref 48, .int x4] (SH L, mi, ml, MR) d (fun v μ' => X 76 91 [.ref 51, .int x1, .int x2, .int x3, .int x4] (v.toList ++ []) μ' (d + 1) Q)) else (Q none (SH L, mi, ml, MR)) := by
  refine (R_pure0 (ins := .iload 4) (len := 2) (loc' := [.ref 51, .int x1, .int x2, .int x3, .int x4]) (st' := [.int x4]) (by decide +kernel) (fun _ => rfl)).trans ?_
  refine (R_bipush (n := 6) (v := 6) (by decide +kernel) (by decide +kernel)).trans ?_
  refine (R_icmp_ge (off := 82) (t := 161) (by decide +kernel) (by decide +kernel)).trans (ite_congr rfl (fun c0 => ?_) (fun c0 => ?_))
  · refine (R_pure0 (ins := .aload_n 0) (len := 1) (loc' := [.ref 51, .int x1, .int x2, .int x3, .int x4]) (st' := [.ref 51]) (by decide +kernel) (fun _ => rfl)).trans ?_
    refine (R_gr (i := 52) (ci := 6) (k := 1) (n := 12) (b := 48) (by decide +kernel) (by decide +kernel) (by decide) rfl (SH_ref (by decide +kernel))).trans ?_
    refine (R_pure0 (ins := .iload 4) (len := 2) (loc' := [.ref 51, .int x1, .int x2, .int x3, .int x4]) (st' := [.int x4, .ref 48]) (by decide +kernel) (fun _ => rfl)).trans ?_
    refine (R_virt (i := 73) (f := 35) (kd := 0) (na := 1) (ml := 2) (ci := 3) (n := 3) (b := 48) (As := [.int x4]) (rest := []) (by decide +kernel) (by decide +kernel) (by decide) (by decide +kernel) rfl (by decide +kernel) rfl rfl (by decide +kernel) (Nat.le_of_ble_eq_true rfl)).trans ?_
    rfl
  · exact R_return (by decide +kernel) (by decide +kernel)
theorem s76_91 {L : Nat} {mi : Nat → Nat → Int32} {ml : Nat → Nat → Int64} {d : Nat} {Q : Option Value → xM → Prop} {x1 x2 x3 x4 y : Int32} : X 76 91 [.ref 51, .int x1, .int x2, .int x3, .int x4] [.int y] (SH L, mi, ml, MR) (d + 1) Q =
    if (y = 0) then (X 76 75 [.ref 51, .int x1, .int x2, .int x3, .int (x4 + 1)] [] (SH L, mi, ml, MR) (d + 1) Q) else (Xm 36 [.ref 48, .int x4] (SH L, mi, ml, MR) d (fun v μ' => X 76 103 [.ref 51, .int x1, .int x2, .int x3, .int x4] (v.toList ++ []) μ' (d + 1) Q)) := by
  refine (R_if_eq (off := 64) (t := 155) (by decide +kernel) (by decide +kernel)).trans (ite_congr rfl (fun c0 => ?_) (fun c0 => ?_))
  · refine (R_iinc (k := 4) (n := 1) (x := x4) (v := (x4 + 1)) (loc' := [.ref 51, .int x1, .int x2, .int x3, .int (x4 + 1)]) (by decide +kernel) rfl rfl rfl).trans ?_
    refine (R_goto (off := (-83)) (t := 75) (by decide +kernel) (by decide +kernel)).trans ?_
    rfl
  · refine (R_pure0 (ins := .aload_n 0) (len := 1) (loc' := [.ref 51, .int x1, .int x2, .int x3, .int x4]) (st' := [.ref 51]) (by decide +kernel) (fun _ => rfl)).trans ?_
    refine (R_gr (i := 52) (ci := 6) (k := 1) (n := 12) (b := 48) (by decide +kernel) (by decide +kernel) (by decide) rfl (SH_ref (by decide +kernel))).trans ?_
    refine (R_pure0 (ins := .iload 4) (len := 2) (loc' := [.ref 51, .int x1, .int x2, .int x3, .int x4]) (st' := [.int x4, .ref 48]) (by decide +kernel) (fun _ => rfl)).trans ?_
    refine (R_virt (i := 77) (f := 36) (kd := 0) (na := 1) (ml := 3) (ci := 3) (n := 3) (b := 48) (As := [.int x4]) (rest := []) (by decide +kernel) (by decide +kernel) (by decide) (by decide +kernel) rfl (by decide +kernel) rfl rfl (by decide +kernel) (Nat.le_of_ble_eq_true rfl)).trans ?_
    rfl
theorem s76_103 {L : Nat} {mi : Nat → Nat → Int32} {ml : Nat → Nat → Int64} {d : Nat} {Q : Option Value → xM → Prop} {x1 x2 x3 x4 y : Int32} : X 76 103 [.ref 51, .int x1, .int x2, .int x3, .int x4] [.int y] (SH L, mi, ml, MR) (d + 1) Q =
    Xm 90 [.ref 52, .int x1] (SH L, mi, ml, MR) d (fun v μ' => X 76 111 [.ref 51, .int x1, .int x2, .int x3, .int x4] (v.toList ++ [.int y]) μ' (d + 1) Q) := by
  refine (R_pure0 (ins := .aload_n 0) (len := 1) (loc' := [.ref 51, .int x1, .int x2, .int x3, .int x4]) (st' := [.ref 51, .int y]) (by decide +kernel) (fun _ => rfl)).trans ?_
  refine (R_gr (i := 14) (ci := 6) (k := 2) (n := 12) (b := 52) (by decide +kernel) (by decide +kernel) (by decide) rfl (SH_ref (by decide +kernel))).trans ?_
  refine (R_pure0 (ins := .iload_n 1) (len := 1) (loc' := [.ref 51, .int x1, .int x2, .int x3, .int x4]) (st' := [.int x1, .ref 52, .int y]) (by decide +kernel) (fun _ => rfl)).trans ?_
  refine (R_virt (i := 81) (f := 90) (kd := 0) (na := 1) (ml := 2) (ci := 8) (n := 2) (b := 52) (As := [.int x1]) (rest := [.int y]) (by decide +kernel) (by decide +kernel) (by decide) (by decide +kernel) rfl (by decide +kernel) rfl rfl (by decide +kernel) (Nat.le_of_ble_eq_true rfl)).trans ?_
  rfl
theorem s76_111 {L : Nat} {mi : Nat → Nat → Int32} {ml : Nat → Nat → Int64} {d : Nat} {Q : Option Value → xM → Prop} {x1 x2 x3 x4 y z0 : Int32} : X 76 111 [.ref 51, .int x1, .int x2, .int x3, .int x4] [.int y, .int z0] (SH L, mi, ml, MR) (d + 1) Q =
    if (z0 = y) then (Xm 37 [.ref 48, .int x4] (SH L, mi, ml, MR) d (fun v μ' => X 76 123 [.ref 51, .int x1, .int x2, .int x3, .int x4] (v.toList ++ []) μ' (d + 1) Q)) else (X 76 75 [.ref 51, .int x1, .int x2, .int x3, .int (x4 + 1)] [] (SH L, mi, ml, MR) (d + 1) Q) := by
  refine (R_icmp_ne (off := 44) (t := 155) (by decide +kernel) (by decide +kernel)).trans (ite_congr rfl (fun c0 => ?_) (fun c0 => ?_))
  · refine (R_pure0 (ins := .aload_n 0) (len := 1) (loc' := [.ref 51, .int x1, .int x2, .int x3, .int x4]) (st' := [.ref 51]) (by decide +kernel) (fun _ => rfl)).trans ?_
    refine (R_gr (i := 52) (ci := 6) (k := 1) (n := 12) (b := 48) (by decide +kernel) (by decide +kernel) (by decide) rfl (SH_ref (by decide +kernel))).trans ?_
    refine (R_pure0 (ins := .iload 4) (len := 2) (loc' := [.ref 51, .int x1, .int x2, .int x3, .int x4]) (st' := [.int x4, .ref 48]) (by decide +kernel) (fun _ => rfl)).trans ?_
    refine (R_virt (i := 84) (f := 37) (kd := 0) (na := 1) (ml := 2) (ci := 3) (n := 3) (b := 48) (As := [.int x4]) (rest := []) (by decide +kernel) (by decide +kernel) (by decide) (by decide +kernel) rfl (by decide +kernel) rfl rfl (by decide +kernel) (Nat.le_of_ble_eq_true rfl)).trans ?_
    rfl
  · refine (R_iinc (k := 4) (n := 1) (x := x4) (v := (x4 + 1)) (loc' := [.ref 51, .int x1, .int x2, .int x3, .int (x4 + 1)]) (by decide +kernel) rfl rfl rfl).trans ?_
    refine (R_goto (off := (-83)) (t := 75) (by decide +kernel) (by decide +kernel)).trans ?_
    rfl
theorem s76_123 {L : Nat} {mi : Nat → Nat → Int32} {ml : Nat → Nat → Int64} {d : Nat} {Q : Option Value → xM → Prop} {x1 x2 x3 x4 : Int32} : X 76 123 [.ref 51, .int x1, .int x2, .int x3, .int x4] [] (SH L, mi, ml, MR) (d + 1) Q =
    if (x1 = 0) then (Xm 76 [.ref 51, .int (x1 + 1), .int (x2 ||| (1 <<< (x4 &&& 31))), .int x4] (SH L, mi, ml, MR) d (fun v μ' => X 76 146 [.ref 51, .int x1, .int x2, .int x3, .int x4] (v.toList ++ []) μ' (d + 1) Q)) else (Xm 76 [.ref 51, .int (x1 + 1), .int (x2 ||| (1 <<< (x4 &&& 31))), .int x3] (SH L, mi, ml, MR) d (fun v μ' => X 76 146 [.ref 51, .int x1, .int x2, .int x3, .int x4] (v.toList ++ []) μ' (d + 1) Q)) := by
  refine (R_pure0 (ins := .aload_n 0) (len := 1) (loc' := [.ref 51, .int x1, .int x2, .int x3, .int x4]) (st' := [.ref 51]) (by decide +kernel) (fun _ => rfl)).trans ?_
  refine (R_pure0 (ins := .iload_n 1) (len := 1) (loc' := [.ref 51, .int x1, .int x2, .int x3, .int x4]) (st' := [.int x1, .ref 51]) (by decide +kernel) (fun _ => rfl)).trans ?_
  refine (R_iconst (n := 1) (v := 1) (by decide +kernel) (by decide +kernel)).trans ?_
  refine (R_pure0 (ins := .iadd) (len := 1) (loc' := [.ref 51, .int x1, .int x2, .int x3, .int x4]) (st' := [.int (x1 + 1), .ref 51]) (by decide +kernel) (fun _ => rfl)).trans ?_
  refine (R_pure0 (ins := .iload_n 2) (len := 1) (loc' := [.ref 51, .int x1, .int x2, .int x3, .int x4]) (st' := [.int x2, .int (x1 + 1), .ref 51]) (by decide +kernel) (fun _ => rfl)).trans ?_
  refine (R_iconst (n := 1) (v := 1) (by decide +kernel) (by decide +kernel)).trans ?_
  refine (R_pure0 (ins := .iload 4) (len := 2) (loc' := [.ref 51, .int x1, .int x2, .int x3, .int x4]) (st' := [.int x4, .int 1, .int x2, .int (x1 + 1), .ref 51]) (by decide +kernel) (fun _ => rfl)).trans ?_
  refine (R_pure0 (ins := .ishl) (len := 1) (loc' := [.ref 51, .int x1, .int x2, .int x3, .int x4]) (st' := [.int (1 <<< (x4 &&& 31)), .int x2, .int (x1 + 1), .ref 51]) (by decide +kernel) (fun _ => rfl)).trans ?_
  refine (R_pure0 (ins := .ior) (len := 1) (loc' := [.ref 51, .int x1, .int x2, .int x3, .int x4]) (st' := [.int (x2 ||| (1 <<< (x4 &&& 31))), .int (x1 + 1), .ref 51]) (by decide +kernel) (fun _ => rfl)).trans ?_
  refine (R_pure0 (ins := .iload_n 1) (len := 1) (loc' := [.ref 51, .int x1, .int x2, .int x3, .int x4]) (st' := [.int x1, .int (x2 ||| (1 <<< (x4 &&& 31))), .int (x1 + 1), .ref 51]) (by decide +kernel) (fun _ => rfl)).trans ?_
  refine (R_if_ne (off := 8) (t := 142) (by decide +kernel) (by decide +kernel)).trans (ite_congr rfl (fun c0 => ?_) (fun c0 => ?_))
  · refine (R_pure0 (ins := .iload 4) (len := 2) (loc' := [.ref 51, .int x1, .int x2, .int x3, .int x4]) (st' := [.int x4, .int (x2 ||| (1 <<< (x4 &&& 31))), .int (x1 + 1), .ref 51]) (by decide +kernel) (fun _ => rfl)).trans ?_
    refine (R_goto (off := 4) (t := 143) (by decide +kernel) (by decide +kernel)).trans ?_
    refine (R_virt (i := 65) (f := 76) (kd := 0) (na := 3) (ml := 5) (ci := 6) (n := 12) (b := 51) (As := [.int (x1 + 1), .int (x2 ||| (1 <<< (x4 &&& 31))), .int x4]) (rest := []) (by decide +kernel) (by decide +kernel) (by decide) (by decide +kernel) rfl (by decide +kernel) rfl rfl (by decide +kernel) (Nat.le_of_ble_eq_true rfl)).trans ?_
    rfl
  · refine (R_pure0 (ins := .iload_n 3) (len := 1) (loc' := [.ref 51, .int x1, .int x2, .int x3, .int x4]) (st' := [.int x3, .int (x2 ||| (1 <<< (x4 &&& 31))), .int (x1 + 1), .ref 51]) (by decide +kernel) (fun _ => rfl)).trans ?_
    refine (R_virt (i := 65) (f := 76) (kd := 0) (na := 3) (ml := 5) (ci := 6) (n := 12) (b := 51) (As := [.int (x1 + 1), .int (x2 ||| (1 <<< (x4 &&& 31))), .int x3]) (rest := []) (by decide +kernel) (by decide +kernel) (by decide) (by decide +kernel) rfl (by decide +kernel) rfl rfl (by decide +kernel) (Nat.le_of_ble_eq_true rfl)).trans ?_
    rfl
theorem s76_146 {L : Nat} {mi : Nat → Nat → Int32} {ml : Nat → Nat → Int64} {d : Nat} {Q : Option Value → xM → Prop} {x1 x2 x3 x4 : Int32} : X 76 146 [.ref 51, .int x1, .int x2, .int x3, .int x4] [] (SH L, mi, ml, MR) (d + 1) Q =
    Xm 38 [.ref 48, .int x4] (SH L, mi, ml, MR) d (fun v μ' => X 76 155 [.ref 51, .int x1, .int x2, .int x3, .int x4] (v.toList ++ []) μ' (d + 1) Q) := by
  refine (R_pure0 (ins := .aload_n 0) (len := 1) (loc' := [.ref 51, .int x1, .int x2, .int x3, .int x4]) (st' := [.ref 51]) (by decide +kernel) (fun _ => rfl)).trans ?_
  refine (R_gr (i := 52) (ci := 6) (k := 1) (n := 12) (b := 48) (by decide +kernel) (by decide +kernel) (by decide) rfl (SH_ref (by decide +kernel))).trans ?_
  refine (R_pure0 (ins := .iload 4) (len := 2) (loc' := [.ref 51, .int x1, .int x2, .int x3, .int x4]) (st' := [.int x4, .ref 48]) (by decide +kernel) (fun _ => rfl)).trans ?_
  refine (R_virt (i := 87) (f := 38) (kd := 0) (na := 1) (ml := 2) (ci := 3) (n := 3) (b := 48) (As := [.int x4]) (rest := []) (by decide +kernel) (by decide +kernel) (by decide) (by decide +kernel) rfl (by decide +kernel) rfl rfl (by decide +kernel) (Nat.le_of_ble_eq_true rfl)).trans ?_
  rfl
theorem s76_155 {L : Nat} {mi : Nat → Nat → Int32} {ml : Nat → Nat → Int64} {d : Nat} {Q : Option Value → xM → Prop} {x1 x2 x3 x4 : Int32} : X 76 155 [.ref 51, .int x1, .int x2, .int x3, .int x4] [] (SH L, mi, ml, MR) d Q =
    X 76 75 [.ref 51, .int x1, .int x2, .int x3, .int (x4 + 1)] [] (SH L, mi, ml, MR) d Q := by
  refine (R_iinc (k := 4) (n := 1) (x := x4) (v := (x4 + 1)) (loc' := [.ref 51, .int x1, .int x2, .int x3, .int (x4 + 1)]) (by decide +kernel) rfl rfl rfl).trans ?_
  refine (R_goto (off := (-83)) (t := 75) (by decide +kernel) (by decide +kernel)).trans ?_
  rfl
theorem s77 {L : Nat} {mi : Nat → Nat → Int32} {ml : Nat → Nat → Int64} {d : Nat} {Q : Option Value → xM → Prop} : Xm 77 [.ref 51] (SH L, mi, ml, MR) (d + 1) Q =
    Xm 88 [.ref 52] (SH L, mi, ml, MR) d (fun v μ' => X 77 11 [.ref 51] (v.toList ++ [.ref 54]) μ' (d + 1) Q) := by
  rw [Xm_ent (n := 1) (loc := [.ref 51]) (by decide +kernel) rfl]
  refine (R_pure0 (ins := .aload_n 0) (len := 1) (loc' := [.ref 51]) (st' := [.ref 51]) (by decide +kernel) (fun _ => rfl)).trans ?_
  refine (R_gr (i := 20) (ci := 6) (k := 3) (n := 12) (b := 54) (by decide +kernel) (by decide +kernel) (by decide) rfl (SH_ref (by decide +kernel))).trans ?_
  refine (R_pure0 (ins := .aload_n 0) (len := 1) (loc' := [.ref 51]) (st' := [.ref 51, .ref 54]) (by decide +kernel) (fun _ => rfl)).trans ?_
  refine (R_gr (i := 14) (ci := 6) (k := 2) (n := 12) (b := 52) (by decide +kernel) (by decide +kernel) (by decide) rfl (SH_ref (by decide +kernel))).trans ?_
  refine (R_virt (i := 69) (f := 88) (kd := 0) (na := 0) (ml := 1) (ci := 8) (n := 2) (b := 52) (As := []) (rest := [.ref 54]) (by decide +kernel) (by decide +kernel) (by decide) (by decide +kernel) rfl (by decide +kernel) rfl rfl (by decide +kernel) (Nat.le_of_ble_eq_true rfl)).trans ?_
  rfl
theorem s77_11 {L : Nat} {mi : Nat → Nat → Int32} {ml : Nat → Nat → Int64} {d : Nat} {Q : Option Value → xM → Prop} {y : Int32} : X 77 11 [.ref 51] [.int y, .ref 54] (SH L, mi, ml, MR) (d + 1) Q =
    Xm 92 [.ref 54, .int y, .int 0] (SH L, mi, ml, MR) d (fun v μ' => X 77 15 [.ref 51] (v.toList ++ []) μ' (d + 1) Q) := by
  refine (R_iconst (n := 0) (v := 0) (by decide +kernel) (by decide +kernel)).trans ?_
  refine (R_virt (i := 90) (f := 92) (kd := 0) (na := 2) (ml := 4) (ci := 8) (n := 2) (b := 54) (As := [.int y, .int 0]) (rest := []) (by decide +kernel) (by decide +kernel) (by decide) (by decide +kernel) rfl (by decide +kernel) rfl rfl (by decide +kernel) (Nat.le_of_ble_eq_true rfl)).trans ?_
  rfl
theorem s77_15 {L : Nat} {mi : Nat → Nat → Int32} {ml : Nat → Nat → Int64} {d : Nat} {Q : Option Value → xM → Prop} : X 77 15 [.ref 51] [] (SH L, mi, ml, MR) (d + 1) Q =
    Xm 92 [.ref 60, .int 6, .int 0] (SH L, mi, ml, MR) d (fun v μ' => X 77 25 [.ref 51] (v.toList ++ []) μ' (d + 1) Q) := by
  refine (R_pure0 (ins := .aload_n 0) (len := 1) (loc' := [.ref 51]) (st' := [.ref 51]) (by decide +kernel) (fun _ => rfl)).trans ?_
  refine (R_gr (i := 29) (ci := 6) (k := 6) (n := 12) (b := 60) (by decide +kernel) (by decide +kernel) (by decide) rfl (SH_ref (by decide +kernel))).trans ?_
  refine (R_bipush (n := 6) (v := 6) (by decide +kernel) (by decide +kernel)).trans ?_
  refine (R_iconst (n := 0) (v := 0) (by decide +kernel) (by decide +kernel)).trans ?_
  refine (R_virt (i := 90) (f := 92) (kd := 0) (na := 2) (ml := 4) (ci := 8) (n := 2) (b := 60) (As := [.int 6, .int 0]) (rest := []) (by decide +kernel) (by decide +kernel) (by decide) (by decide +kernel) rfl (by decide +kernel) rfl rfl (by decide +kernel) (Nat.le_of_ble_eq_true rfl)).trans ?_
  rfl
theorem s77_25 {L : Nat} {mi : Nat → Nat → Int32} {ml : Nat → Nat → Int64} {d : Nat} {Q : Option Value → xM → Prop} : X 77 25 [.ref 51] [] (SH L, mi, ml, MR) (d + 1) Q =
    Xm 95 [.ref 56] (SH L, mi, ml, MR) d (fun v μ' => X 77 32 [.ref 51] (v.toList ++ []) μ' (d + 1) Q) := by
  refine (R_pure0 (ins := .aload_n 0) (len := 1) (loc' := [.ref 51]) (st' := [.ref 51]) (by decide +kernel) (fun _ => rfl)).trans ?_
  refine (R_gr (i := 23) (ci := 6) (k := 4) (n := 12) (b := 56) (by decide +kernel) (by decide +kernel) (by decide) rfl (SH_ref (by decide +kernel))).trans ?_
  refine (R_virt (i := 93) (f := 95) (kd := 0) (na := 0) (ml := 1) (ci := 8) (n := 2) (b := 56) (As := []) (rest := []) (by decide +kernel) (by decide +kernel) (by decide) (by decide +kernel) rfl (by decide +kernel) rfl rfl (by decide +kernel) (Nat.le_of_ble_eq_true rfl)).trans ?_
  rfl
theorem s77_32 {L : Nat} {mi : Nat → Nat → Int32} {ml : Nat → Nat → Int64} {d : Nat} {Q : Option Value → xM → Prop} : X 77 32 [.ref 51] [] (SH L, mi, ml, MR) (d + 1) Q =
    Xm 78 [.ref 51] (SH L, (xw mi 51 7 (-9)), ml, MR) d (fun v μ' => X 77 42 [.ref 51] (v.toList ++ []) μ' (d + 1) Q) := by
  refine (R_pure0 (ins := .aload_n 0) (len := 1) (loc' := [.ref 51]) (st' := [.ref 51]) (by decide +kernel) (fun _ => rfl)).trans ?_
  refine (R_bipush (n := (-9)) (v := (-9)) (by decide +kernel) (by decide +kernel)).trans ?_
  refine (R_pi (i := 32) (ci := 6) (k := 7) (n := 12) (by decide +kernel) (by decide +kernel) (by decide) rfl).trans ?_
  refine (R_pure0 (ins := .aload_n 0) (len := 1) (loc' := [.ref 51]) (st' := [.ref 51]) (by decide +kernel) (fun _ => rfl)).trans ?_
  refine (R_virt (i := 96) (f := 78) (kd := 0) (na := 0) (ml := 5) (ci := 6) (n := 12) (b := 51) (As := []) (rest := []) (by decide +kernel) (by decide +kernel) (by decide) (by decide +kernel) rfl (by decide +kernel) rfl rfl (by decide +kernel) (Nat.le_of_ble_eq_true rfl)).trans ?_
  rfl
theorem s77_42 {L : Nat} {mi : Nat → Nat → Int32} {ml : Nat → Nat → Int64} {d : Nat} {Q : Option Value → xM → Prop} : X 77 42 [.ref 51] [] (SH L, mi, ml, MR) (d + 1) Q =
    Xm 79 [.ref 51, .int 0, .int 0] (SH L, mi, ml, MR) d (fun v μ' => X 77 48 [.ref 51] (v.toList ++ []) μ' (d + 1) Q) := by
  refine (R_pure0 (ins := .aload_n 0) (len := 1) (loc' := [.ref 51]) (st' := [.ref 51]) (by decide +kernel) (fun _ => rfl)).trans ?_
  refine (R_iconst (n := 0) (v := 0) (by decide +kernel) (by decide +kernel)).trans ?_
  refine (R_iconst (n := 0) (v := 0) (by decide +kernel) (by decide +kernel)).trans ?_
  refine (R_virt (i := 99) (f := 79) (kd := 0) (na := 2) (ml := 5) (ci := 6) (n := 12) (b := 51) (As := [.int 0, .int 0]) (rest := []) (by decide +kernel) (by decide +kernel) (by decide) (by decide +kernel) rfl (by decide +kernel) rfl rfl (by decide +kernel) (Nat.le_of_ble_eq_true rfl)).trans ?_
  rfl
theorem s77_48 {L : Nat} {mi : Nat → Nat → Int32} {ml : Nat → Nat → Int64} {d : Nat} {Q : Option Value → xM → Prop} : X 77 48 [.ref 51] [] (SH L, mi, ml, MR) d Q =
    Q (some (.int (mi 51 7))) (SH L, mi, ml, MR) := by
  refine (R_pure0 (ins := .aload_n 0) (len := 1) (loc' := [.ref 51]) (st' := [.ref 51]) (by decide +kernel) (fun _ => rfl)).trans ?_
  refine (R_gi (i := 32) (ci := 6) (k := 7) (n := 12) (by decide +kernel) (by decide +kernel) (by decide) rfl).trans ?_
  exact R_ireturn (by decide +kernel) (by decide +kernel)
theorem s78 {L : Nat} {mi : Nat → Nat → Int32} {ml : Nat → Nat → Int64} {d : Nat} {Q : Option Value → xM → Prop} : Xm 78 [.ref 51] (SH L, mi, ml, MR) (d + 1) Q =
    Xm 92 [.ref 58, .int 30, .int (-9)] (SH L, mi, ml, MR) d (fun v μ' => X 78 11 [.ref 51, xmk, xmk, xmk, xmk] (v.toList ++ []) μ' (d + 1) Q) := by
  rw [Xm_ent (n := 5) (loc := [.ref 51, xmk, xmk, xmk, xmk]) (by decide +kernel) rfl]
  refine (R_pure0 (ins := .aload_n 0) (len := 1) (loc' := [.ref 51, xmk, xmk, xmk, xmk]) (st' := [.ref 51]) (by decide +kernel) (fun _ => rfl)).trans ?_
  refine (R_gr (i := 26) (ci := 6) (k := 5) (n := 12) (b := 58) (by decide +kernel) (by decide +kernel) (by decide) rfl (SH_ref (by decide +kernel))).trans ?_
  refine (R_bipush (n := 30) (v := 30) (by decide +kernel) (by decide +kernel)).trans ?_
  refine (R_bipush (n := (-9)) (v := (-9)) (by decide +kernel) (by decide +kernel)).trans ?_
  refine (R_virt (i := 90) (f := 92) (kd := 0) (na := 2) (ml := 4) (ci := 8) (n := 2) (b := 58) (As := [.int 30, .int (-9)]) (rest := []) (by decide +kernel) (by decide +kernel) (by decide) (by decide +kernel) rfl (by decide +kernel) rfl rfl (by decide +kernel) (Nat.le_of_ble_eq_true rfl)).trans ?_
  rfl
theorem s78_11 {L : Nat} {mi : Nat → Nat → Int32} {ml : Nat → Nat → Int64} {d : Nat} {Q : Option Value → xM → Prop} : X 78 11 [.ref 51, xmk, xmk, xmk, xmk] [] (SH L, mi, ml, MR) d Q =
    X 78 13 [.ref 51, .int 0, xmk, xmk, xmk] [] (SH L, mi, ml, MR) d Q := by
  refine (R_iconst (n := 0) (v := 0) (by decide +kernel) (by decide +kernel)).trans ?_
  refine (R_pure0 (ins := .istore_n 1) (len := 1) (loc' := [.ref 51, .int 0, xmk, xmk, xmk]) (st' := []) (by decide +kernel) (fun _ => rfl)).trans ?_
  rfl
theorem s78_13 {L : Nat} {mi : Nat → Nat → Int32} {ml : Nat → Nat → Int64} {d : Nat} {Q : Option Value → xM → Prop} {x1 : Int32} : X 78 13 [.ref 51, .int x1, xmk, xmk, xmk] [] (SH L, mi, ml, MR) (d + 1) Q =
    Xm 16 [.ref 38] (SH L, mi, ml, MR) d (fun v μ' => X 78 21 [.ref 51, .int x1, xmk, xmk, xmk] (v.toList ++ [.int x1]) μ' (d + 1) Q) := by
  refine (R_pure0 (ins := .iload_n 1) (len := 1) (loc' := [.ref 51, .int x1, xmk, xmk, xmk]) (st' := [.int x1]) (by decide +kernel) (fun _ => rfl)).trans ?_
  refine (R_pure0 (ins := .aload_n 0) (len := 1) (loc' := [.ref 51, .int x1, xmk, xmk, xmk]) (st' := [.ref 51, .int x1]) (by decide +kernel) (fun _ => rfl)).trans ?_
  refine (R_gr (i := 48) (ci := 6) (k := 0) (n := 12) (b := 38) (by decide +kernel) (by decide +kernel) (by decide) rfl (SH_ref (by decide +kernel))).trans ?_
  refine (R_virt (i := 102) (f := 16) (kd := 0) (na := 0) (ml := 1) (ci := 2) (n := 5) (b := 38) (As := []) (rest := [.int x1]) (by decide +kernel) (by decide +kernel) (by decide) (by decide +kernel) rfl (by decide +kernel) rfl rfl (by decide +kernel) (Nat.le_of_ble_eq_true rfl)).trans ?_
  rfl
theorem s78_21 {L : Nat} {mi : Nat → Nat → Int32} {ml : Nat → Nat → Int64} {d : Nat} {Q : Option Value → xM → Prop} {x1 y z0 : Int32} : X 78 21 [.ref 51, .int x1, xmk, xmk, xmk] [.int y, .int z0] (SH L, mi, ml, MR) (d + 1) Q =
    if (z0 < y) then (Xm 15 [.ref 38, .int x1] (SH L, mi, ml, MR) d (fun v μ' => X 78 32 [.ref 51, .int x1, xmk, xmk, xmk] (v.toList ++ []) μ' (d + 1) Q)) else (Q none (SH L, mi, ml, MR)) := by
  refine (R_icmp_ge (off := 74) (t := 95) (by decide +kernel) (by decide +kernel)).trans (ite_congr rfl (fun c0 => ?_) (fun c0 => ?_))
  · refine (R_pure0 (ins := .aload_n 0) (len := 1) (loc' := [.ref 51, .int x1, xmk, xmk, xmk]) (st' := [.ref 51]) (by decide +kernel) (fun _ => rfl)).trans ?_
    refine (R_gr (i := 48) (ci := 6) (k := 0) (n := 12) (b := 38) (by decide +kernel) (by decide +kernel) (by decide) rfl (SH_ref (by decide +kernel))).trans ?_
    refine (R_pure0 (ins := .iload_n 1) (len := 1) (loc' := [.ref 51, .int x1, xmk, xmk, xmk]) (st' := [.int x1, .ref 38]) (by decide +kernel) (fun _ => rfl)).trans ?_
    refine (R_virt (i := 105) (f := 15) (kd := 0) (na := 1) (ml := 2) (ci := 2) (n := 5) (b := 38) (As := [.int x1]) (rest := []) (by decide +kernel) (by decide +kernel) (by decide) (by decide +kernel) rfl (by decide +kernel) rfl rfl (by decide +kernel) (Nat.le_of_ble_eq_true rfl)).trans ?_
    rfl
  · exact R_return (by decide +kernel) (by decide +kernel)
theorem s78_32 {L : Nat} {mi : Nat → Nat → Int32} {ml : Nat → Nat → Int64} {d : Nat} {Q : Option Value → xM → Prop} {x1 : Int32} {ry : Nat} (hS_ry : (SH L)[ry]? = some (4, 7)) : X 78 32 [.ref 51, .int x1, xmk, xmk, xmk] [.ref ry] (SH L, mi, ml, MR) d Q =
    X 78 35 [.ref 51, .int x1, .ref ry, .int 0, xmk] [] (SH L, mi, ml, MR) d Q := by
  refine (R_pure0 (ins := .astore_n 2) (len := 1) (loc' := [.ref 51, .int x1, .ref ry, xmk, xmk]) (st' := []) (by decide +kernel) (fun _ => rfl)).trans ?_
  refine (R_iconst (n := 0) (v := 0) (by decide +kernel) (by decide +kernel)).trans ?_
  refine (R_pure0 (ins := .istore_n 3) (len := 1) (loc' := [.ref 51, .int x1, .ref ry, .int 0, xmk]) (st' := []) (by decide +kernel) (fun _ => rfl)).trans ?_
  rfl
theorem s78_32n {L : Nat} {mi : Nat → Nat → Int32} {ml : Nat → Nat → Int64} {d : Nat} {Q : Option Value → xM → Prop} {x1 : Int32} : X 78 32 [.ref 51, .int x1, xmk, xmk, xmk] [.null] (SH L, mi, ml, MR) d Q =
    X 78 35 [.ref 51, .int x1, .null, .int 0, xmk] [] (SH L, mi, ml, MR) d Q := by
  refine (R_pure0 (ins := .astore_n 2) (len := 1) (loc' := [.ref 51, .int x1, .null, xmk, xmk]) (st' := []) (by decide +kernel) (fun _ => rfl)).trans ?_
  refine (R_iconst (n := 0) (v := 0) (by decide +kernel) (by decide +kernel)).trans ?_
  refine (R_pure0 (ins := .istore_n 3) (len := 1) (loc' := [.ref 51, .int x1, .null, .int 0, xmk]) (st' := []) (by decide +kernel) (fun _ => rfl)).trans ?_
  rfl
theorem s78_35 {L : Nat} {mi : Nat → Nat → Int32} {ml : Nat → Nat → Int64} {d : Nat} {Q : Option Value → xM → Prop} {x1 x3 : Int32} {r2 : Nat} (hS_r2 : (SH L)[r2]? = some (4, 7)) : X 78 35 [.ref 51, .int x1, .ref r2, .int x3, xmk] [] (SH L, mi, ml, MR) (d + 1) Q =
    if (x3 < 5) then (Xm 18 [.ref 38] (SH L, mi, ml, MR) d (fun v μ' => X 78 62 [.ref 51, .int x1, .ref r2, .int x3, xmk] (v.toList ++ [.int (mi r2 4), .int ((mi r2 5) + x3), .ref r2]) μ' (d + 1) Q)) else (X 78 13 [.ref 51, .int (x1 + 1), .ref r2, .int x3, xmk] [] (SH L, mi, ml, MR) (d + 1) Q) := by
  refine (R_pure0 (ins := .aload_n 2) (len := 1) (loc' := [.ref 51, .int x1, .ref r2, .int x3, xmk]) (st' := [.ref r2]) (by decide +kernel) (fun _ => rfl)).trans ?_
  refine (R_ifnull_r (off := 53) (by decide +kernel)).trans ?_
  refine (R_pure0 (ins := .iload_n 3) (len := 1) (loc' := [.ref 51, .int x1, .ref r2, .int x3, xmk]) (st' := [.int x3]) (by decide +kernel) (fun _ => rfl)).trans ?_
  refine (R_iconst (n := 5) (v := 5) (by decide +kernel) (by decide +kernel)).trans ?_
  refine (R_icmp_ge (off := 48) (t := 89) (by decide +kernel) (by decide +kernel)).trans (ite_congr rfl (fun c0 => ?_) (fun c0 => ?_))
  · refine (R_pure0 (ins := .aload_n 2) (len := 1) (loc' := [.ref 51, .int x1, .ref r2, .int x3, xmk]) (st' := [.ref r2]) (by decide +kernel) (fun _ => rfl)).trans ?_
    refine (R_pure0 (ins := .aload_n 2) (len := 1) (loc' := [.ref 51, .int x1, .ref r2, .int x3, xmk]) (st' := [.ref r2, .ref r2]) (by decide +kernel) (fun _ => rfl)).trans ?_
    refine (R_gi (i := 109) (ci := 4) (k := 5) (n := 7) (by decide +kernel) (by decide +kernel) (by decide) hS_r2).trans ?_
    refine (R_pure0 (ins := .iload_n 3) (len := 1) (loc' := [.ref 51, .int x1, .ref r2, .int x3, xmk]) (st' := [.int x3, .int (mi r2 5), .ref r2]) (by decide +kernel) (fun _ => rfl)).trans ?_
    refine (R_pure0 (ins := .iadd) (len := 1) (loc' := [.ref 51, .int x1, .ref r2, .int x3, xmk]) (st' := [.int ((mi r2 5) + x3), .ref r2]) (by decide +kernel) (fun _ => rfl)).trans ?_
    refine (R_pure0 (ins := .aload_n 2) (len := 1) (loc' := [.ref 51, .int x1, .ref r2, .int x3, xmk]) (st' := [.ref r2, .int ((mi r2 5) + x3), .ref r2]) (by decide +kernel) (fun _ => rfl)).trans ?_
    refine (R_gi (i := 114) (ci := 4) (k := 4) (n := 7) (by decide +kernel) (by decide +kernel) (by decide) hS_r2).trans ?_
    refine (R_pure0 (ins := .aload_n 0) (len := 1) (loc' := [.ref 51, .int x1, .ref r2, .int x3, xmk]) (st' := [.ref 51, .int (mi r2 4), .int ((mi r2 5) + x3), .ref r2]) (by decide +kernel) (fun _ => rfl)).trans ?_
    refine (R_gr (i := 48) (ci := 6) (k := 0) (n := 12) (b := 38) (by decide +kernel) (by decide +kernel) (by decide) rfl (SH_ref (by decide +kernel))).trans ?_
    refine (R_virt (i := 117) (f := 18) (kd := 0) (na := 0) (ml := 1) (ci := 2) (n := 5) (b := 38) (As := []) (rest := [.int (mi r2 4), .int ((mi r2 5) + x3), .ref r2]) (by decide +kernel) (by decide +kernel) (by decide) (by decide +kernel) rfl (by decide +kernel) rfl rfl (by decide +kernel) (Nat.le_of_ble_eq_true rfl)).trans ?_
    rfl
  · refine (R_iinc (k := 1) (n := 1) (x := x1) (v := (x1 + 1)) (loc' := [.ref 51, .int (x1 + 1), .ref r2, .int x3, xmk]) (by decide +kernel) rfl rfl rfl).trans ?_
    refine (R_goto (off := (-79)) (t := 13) (by decide +kernel) (by decide +kernel)).trans ?_
    rfl
theorem s78_35v2 {L : Nat} {mi : Nat → Nat → Int32} {ml : Nat → Nat → Int64} {d : Nat} {Q : Option Value → xM → Prop} {x1 x3 : Int32} : X 78 35 [.ref 51, .int x1, .null, .int x3, xmk] [] (SH L, mi, ml, MR) d Q =
    X 78 13 [.ref 51, .int (x1 + 1), .null, .int x3, xmk] [] (SH L, mi, ml, MR) d Q := by
  refine (R_pure0 (ins := .aload_n 2) (len := 1) (loc' := [.ref 51, .int x1, .null, .int x3, xmk]) (st' := [.null]) (by decide +kernel) (fun _ => rfl)).trans ?_
  refine (R_ifnull_n (off := 53) (t := 89) (by decide +kernel) (by decide +kernel)).trans ?_
  refine (R_iinc (k := 1) (n := 1) (x := x1) (v := (x1 + 1)) (loc' := [.ref 51, .int (x1 + 1), .null, .int x3, xmk]) (by decide +kernel) rfl rfl rfl).trans ?_
  refine (R_goto (off := (-79)) (t := 13) (by decide +kernel) (by decide +kernel)).trans ?_
  rfl
theorem s78_62 {L : Nat} {mi : Nat → Nat → Int32} {ml : Nat → Nat → Int64} {d : Nat} {Q : Option Value → xM → Prop} {x1 x3 y z0 z1 : Int32} {r2 : Nat} (hS_r2 : (SH L)[r2]? = some (4, 7)) : X 78 62 [.ref 51, .int x1, .ref r2, .int x3, xmk] [.int y, .int z0, .int z1, .ref r2] (SH L, mi, ml, MR) (d + 1) Q =
    Xm 59 [.ref r2, .int z1, .int z0, .int y, .int 60] (SH L, mi, ml, MR) d (fun v μ' => X 78 67 [.ref 51, .int x1, .ref r2, .int x3, xmk] (v.toList ++ []) μ' (d + 1) Q) := by
  refine (R_bipush (n := 60) (v := 60) (by decide +kernel) (by decide +kernel)).trans ?_
  refine (R_virt (i := 120) (f := 59) (kd := 0) (na := 4) (ml := 7) (ci := 4) (n := 7) (b := r2) (As := [.int z1, .int z0, .int y, .int 60]) (rest := []) (by decide +kernel) (by decide +kernel) (by decide) (by decide +kernel) rfl (by decide +kernel) hS_r2 rfl (by decide +kernel) (Nat.le_of_ble_eq_true rfl)).trans ?_
  rfl
theorem s78_13v2 {L : Nat} {mi : Nat → Nat → Int32} {ml : Nat → Nat → Int64} {d : Nat} {Q : Option Value → xM → Prop} {x1 x3 : Int32} {r2 : Nat} (hS_r2 : (SH L)[r2]? = some (4, 7)) : X 78 13 [.ref 51, .int x1, .ref r2, .int x3, xmk] [] (SH L, mi, ml, MR) (d + 1) Q =
    Xm 16 [.ref 38] (SH L, mi, ml, MR) d (fun v μ' => X 78 21 [.ref 51, .int x1, .ref r2, .int x3, xmk] (v.toList ++ [.int x1]) μ' (d + 1) Q) := by
  refine (R_pure0 (ins := .iload_n 1) (len := 1) (loc' := [.ref 51, .int x1, .ref r2, .int x3, xmk]) (st' := [.int x1]) (by decide +kernel) (fun _ => rfl)).trans ?_
  refine (R_pure0 (ins := .aload_n 0) (len := 1) (loc' := [.ref 51, .int x1, .ref r2, .int x3, xmk]) (st' := [.ref 51, .int x1]) (by decide +kernel) (fun _ => rfl)).trans ?_
  refine (R_gr (i := 48) (ci := 6) (k := 0) (n := 12) (b := 38) (by decide +kernel) (by decide +kernel) (by decide) rfl (SH_ref (by decide +kernel))).trans ?_
  refine (R_virt (i := 102) (f := 16) (kd := 0) (na := 0) (ml := 1) (ci := 2) (n := 5) (b := 38) (As := []) (rest := [.int x1]) (by decide +kernel) (by decide +kernel) (by decide) (by decide +kernel) rfl (by decide +kernel) rfl rfl (by decide +kernel) (Nat.le_of_ble_eq_true rfl)).trans ?_
  rfl
theorem s78_13v3 {L : Nat} {mi : Nat → Nat → Int32} {ml : Nat → Nat → Int64} {d : Nat} {Q : Option Value → xM → Prop} {x1 x3 : Int32} : X 78 13 [.ref 51, .int x1, .null, .int x3, xmk] [] (SH L, mi, ml, MR) (d + 1) Q =
    Xm 16 [.ref 38] (SH L, mi, ml, MR) d (fun v μ' => X 78 21 [.ref 51, .int x1, .null, .int x3, xmk] (v.toList ++ [.int x1]) μ' (d + 1) Q) := by
  refine (R_pure0 (ins := .iload_n 1) (len := 1) (loc' := [.ref 51, .int x1, .null, .int x3, xmk]) (st' := [.int x1]) (by decide +kernel) (fun _ => rfl)).trans ?_
  refine (R_pure0 (ins := .aload_n 0) (len := 1) (loc' := [.ref 51, .int x1, .null, .int x3, xmk]) (st' := [.ref 51, .int x1]) (by decide +kernel) (fun _ => rfl)).trans ?_
  refine (R_gr (i := 48) (ci := 6) (k := 0) (n := 12) (b := 38) (by decide +kernel) (by decide +kernel) (by decide) rfl (SH_ref (by decide +kernel))).trans ?_
  refine (R_virt (i := 102) (f := 16) (kd := 0) (na := 0) (ml := 1) (ci := 2) (n := 5) (b := 38) (As := []) (rest := [.int x1]) (by decide +kernel) (by decide +kernel) (by decide) (by decide +kernel) rfl (by decide +kernel) rfl rfl (by decide +kernel) (Nat.le_of_ble_eq_true rfl)).trans ?_
  rfl
theorem s78_67 {L : Nat} {mi : Nat → Nat → Int32} {ml : Nat → Nat → Int64} {d : Nat} {Q : Option Value → xM → Prop} {x1 x3 y : Int32} {r2 : Nat} (hS_r2 : (SH L)[r2]? = some (4, 7)) : X 78 67 [.ref 51, .int x1, .ref r2, .int x3, xmk] [.int y] (SH L, mi, ml, MR) (d + 1) Q =
    Xm 91 [.ref 58, .int ((x1 * 5) + x3), .int y] (SH L, mi, ml, MR) d (fun v μ' => X 78 83 [.ref 51, .int x1, .ref r2, .int x3, .int y] (v.toList ++ []) μ' (d + 1) Q) := by
  refine (R_pure0 (ins := .istore 4) (len := 2) (loc' := [.ref 51, .int x1, .ref r2, .int x3, .int y]) (st' := []) (by decide +kernel) (fun _ => rfl)).trans ?_
  refine (R_pure0 (ins := .aload_n 0) (len := 1) (loc' := [.ref 51, .int x1, .ref r2, .int x3, .int y]) (st' := [.ref 51]) (by decide +kernel) (fun _ => rfl)).trans ?_
  refine (R_gr (i := 26) (ci := 6) (k := 5) (n := 12) (b := 58) (by decide +kernel) (by decide +kernel) (by decide) rfl (SH_ref (by decide +kernel))).trans ?_
  refine (R_pure0 (ins := .iload_n 1) (len := 1) (loc' := [.ref 51, .int x1, .ref r2, .int x3, .int y]) (st' := [.int x1, .ref 58]) (by decide +kernel) (fun _ => rfl)).trans ?_
  refine (R_iconst (n := 5) (v := 5) (by decide +kernel) (by decide +kernel)).trans ?_
  refine (R_pure0 (ins := .imul) (len := 1) (loc' := [.ref 51, .int x1, .ref r2, .int x3, .int y]) (st' := [.int (x1 * 5), .ref 58]) (by decide +kernel) (fun _ => rfl)).trans ?_
  refine (R_pure0 (ins := .iload_n 3) (len := 1) (loc' := [.ref 51, .int x1, .ref r2, .int x3, .int y]) (st' := [.int x3, .int (x1 * 5), .ref 58]) (by decide +kernel) (fun _ => rfl)).trans ?_
  refine (R_pure0 (ins := .iadd) (len := 1) (loc' := [.ref 51, .int x1, .ref r2, .int x3, .int y]) (st' := [.int ((x1 * 5) + x3), .ref 58]) (by decide +kernel) (fun _ => rfl)).trans ?_
  refine (R_pure0 (ins := .iload 4) (len := 2) (loc' := [.ref 51, .int x1, .ref r2, .int x3, .int y]) (st' := [.int y, .int ((x1 * 5) + x3), .ref 58]) (by decide +kernel) (fun _ => rfl)).trans ?_
  refine (R_virt (i := 124) (f := 91) (kd := 0) (na := 2) (ml := 3) (ci := 8) (n := 2) (b := 58) (As := [.int ((x1 * 5) + x3), .int y]) (rest := []) (by decide +kernel) (by decide +kernel) (by decide) (by decide +kernel) rfl (by decide +kernel) rfl rfl (by decide +kernel) (Nat.le_of_ble_eq_true rfl)).trans ?_
  rfl
theorem s78_21v2 {L : Nat} {mi : Nat → Nat → Int32} {ml : Nat → Nat → Int64} {d : Nat} {Q : Option Value → xM → Prop} {x1 x3 y z0 : Int32} {r2 : Nat} (hS_r2 : (SH L)[r2]? = some (4, 7)) : X 78 21 [.ref 51, .int x1, .ref r2, .int x3, xmk] [.int y, .int z0] (SH L, mi, ml, MR) (d + 1) Q =
    if (z0 < y) then (Xm 15 [.ref 38, .int x1] (SH L, mi, ml, MR) d (fun v μ' => X 78 32 [.ref 51, .int x1, .ref r2, .int x3, xmk] (v.toList ++ []) μ' (d + 1) Q)) else (Q none (SH L, mi, ml, MR)) := by
  refine (R_icmp_ge (off := 74) (t := 95) (by decide +kernel) (by decide +kernel)).trans (ite_congr rfl (fun c0 => ?_) (fun c0 => ?_))
  · refine (R_pure0 (ins := .aload_n 0) (len := 1) (loc' := [.ref 51, .int x1, .ref r2, .int x3, xmk]) (st' := [.ref 51]) (by decide +kernel) (fun _ => rfl)).trans ?_
    refine (R_gr (i := 48) (ci := 6) (k := 0) (n := 12) (b := 38) (by decide +kernel) (by decide +kernel) (by decide) rfl (SH_ref (by decide +kernel))).trans ?_
    refine (R_pure0 (ins := .iload_n 1) (len := 1) (loc' := [.ref 51, .int x1, .ref r2, .int x3, xmk]) (st' := [.int x1, .ref 38]) (by decide +kernel) (fun _ => rfl)).trans ?_
    refine (R_virt (i := 105) (f := 15) (kd := 0) (na := 1) (ml := 2) (ci := 2) (n := 5) (b := 38) (As := [.int x1]) (rest := []) (by decide +kernel) (by decide +kernel) (by decide) (by decide +kernel) rfl (by decide +kernel) rfl rfl (by decide +kernel) (Nat.le_of_ble_eq_true rfl)).trans ?_
    rfl
  · exact R_return (by decide +kernel) (by decide +kernel)
theorem s78_21v3 {L : Nat} {mi : Nat → Nat → Int32} {ml : Nat → Nat → Int64} {d : Nat} {Q : Option Value → xM → Prop} {x1 x3 y z0 : Int32} : X 78 21 [.ref 51, .int x1, .null, .int x3, xmk] [.int y, .int z0] (SH L, mi, ml, MR) (d + 1) Q =
    if (z0 < y) then (Xm 15 [.ref 38, .int x1] (SH L, mi, ml, MR) d (fun v μ' => X 78 32 [.ref 51, .int x1, .null, .int x3, xmk] (v.toList ++ []) μ' (d + 1) Q)) else (Q none (SH L, mi, ml, MR)) := by
  refine (R_icmp_ge (off := 74) (t := 95) (by decide +kernel) (by decide +kernel)).trans (ite_congr rfl (fun c0 => ?_) (fun c0 => ?_))
  · refine (R_pure0 (ins := .aload_n 0) (len := 1) (loc' := [.ref 51, .int x1, .null, .int x3, xmk]) (st' := [.ref 51]) (by decide +kernel) (fun _ => rfl)).trans ?_
    refine (R_gr (i := 48) (ci := 6) (k := 0) (n := 12) (b := 38) (by decide +kernel) (by decide +kernel) (by decide) rfl (SH_ref (by decide +kernel))).trans ?_
    refine (R_pure0 (ins := .iload_n 1) (len := 1) (loc' := [.ref 51, .int x1, .null, .int x3, xmk]) (st' := [.int x1, .ref 38]) (by decide +kernel) (fun _ => rfl)).trans ?_
    refine (R_virt (i := 105) (f := 15) (kd := 0) (na := 1) (ml := 2) (ci := 2) (n := 5) (b := 38) (As := [.int x1]) (rest := []) (by decide +kernel) (by decide +kernel) (by decide) (by decide +kernel) rfl (by decide +kernel) rfl rfl (by decide +kernel) (Nat.le_of_ble_eq_true rfl)).trans ?_
    rfl
  · exact R_return (by decide +kernel) (by decide +kernel)
theorem s78_83 {L : Nat} {mi : Nat → Nat → Int32} {ml : Nat → Nat → Int64} {d : Nat} {Q : Option Value → xM → Prop} {x1 x3 x4 : Int32} {r2 : Nat} (hS_r2 : (SH L)[r2]? = some (4, 7)) : X 78 83 [.ref 51, .int x1, .ref r2, .int x3, .int x4] [] (SH L, mi, ml, MR) d Q =
    X 78 35 [.ref 51, .int x1, .ref r2, .int (x3 + 1), .int x4] [] (SH L, mi, ml, MR) d Q := by
  refine (R_iinc (k := 3) (n := 1) (x := x3) (v := (x3 + 1)) (loc' := [.ref 51, .int x1, .ref r2, .int (x3 + 1), .int x4]) (by decide +kernel) rfl rfl rfl).trans ?_
  refine (R_goto (off := (-51)) (t := 35) (by decide +kernel) (by decide +kernel)).trans ?_
  rfl
theorem s78_32v2 {L : Nat} {mi : Nat → Nat → Int32} {ml : Nat → Nat → Int64} {d : Nat} {Q : Option Value → xM → Prop} {x1 x3 : Int32} {r2 ry : Nat} (hS_r2 : (SH L)[r2]? = some (4, 7)) (hS_ry : (SH L)[ry]? = some (4, 7)) : X 78 32 [.ref 51, .int x1, .ref r2, .int x3, xmk] [.ref ry] (SH L, mi, ml, MR) d Q =
    X 78 35 [.ref 51, .int x1, .ref ry, .int 0, xmk] [] (SH L, mi, ml, MR) d Q := by
  refine (R_pure0 (ins := .astore_n 2) (len := 1) (loc' := [.ref 51, .int x1, .ref ry, .int x3, xmk]) (st' := []) (by decide +kernel) (fun _ => rfl)).trans ?_
  refine (R_iconst (n := 0) (v := 0) (by decide +kernel) (by decide +kernel)).trans ?_
  refine (R_pure0 (ins := .istore_n 3) (len := 1) (loc' := [.ref 51, .int x1, .ref ry, .int 0, xmk]) (st' := []) (by decide +kernel) (fun _ => rfl)).trans ?_
  rfl
theorem s78_32nv2 {L : Nat} {mi : Nat → Nat → Int32} {ml : Nat → Nat → Int64} {d : Nat} {Q : Option Value → xM → Prop} {x1 x3 : Int32} {r2 : Nat} (hS_r2 : (SH L)[r2]? = some (4, 7)) : X 78 32 [.ref 51, .int x1, .ref r2, .int x3, xmk] [.null] (SH L, mi, ml, MR) d Q =
    X 78 35 [.ref 51, .int x1, .null, .int 0, xmk] [] (SH L, mi, ml, MR) d Q := by
  refine (R_pure0 (ins := .astore_n 2) (len := 1) (loc' := [.ref 51, .int x1, .null, .int x3, xmk]) (st' := []) (by decide +kernel) (fun _ => rfl)).trans ?_
  refine (R_iconst (n := 0) (v := 0) (by decide +kernel) (by decide +kernel)).trans ?_
  refine (R_pure0 (ins := .istore_n 3) (len := 1) (loc' := [.ref 51, .int x1, .null, .int 0, xmk]) (st' := []) (by decide +kernel) (fun _ => rfl)).trans ?_
  rfl
theorem s78_32v3 {L : Nat} {mi : Nat → Nat → Int32} {ml : Nat → Nat → Int64} {d : Nat} {Q : Option Value → xM → Prop} {x1 x3 : Int32} {ry : Nat} (hS_ry : (SH L)[ry]? = some (4, 7)) : X 78 32 [.ref 51, .int x1, .null, .int x3, xmk] [.ref ry] (SH L, mi, ml, MR) d Q =
    X 78 35 [.ref 51, .int x1, .ref ry, .int 0, xmk] [] (SH L, mi, ml, MR) d Q := by
  refine (R_pure0 (ins := .astore_n 2) (len := 1) (loc' := [.ref 51, .int x1, .ref ry, .int x3, xmk]) (st' := []) (by decide +kernel) (fun _ => rfl)).trans ?_
  refine (R_iconst (n := 0) (v := 0) (by decide +kernel) (by decide +kernel)).trans ?_
  refine (R_pure0 (ins := .istore_n 3) (len := 1) (loc' := [.ref 51, .int x1, .ref ry, .int 0, xmk]) (st' := []) (by decide +kernel) (fun _ => rfl)).trans ?_
  rfl
theorem s78_32nv3 {L : Nat} {mi : Nat → Nat → Int32} {ml : Nat → Nat → Int64} {d : Nat} {Q : Option Value → xM → Prop} {x1 x3 : Int32} : X 78 32 [.ref 51, .int x1, .null, .int x3, xmk] [.null] (SH L, mi, ml, MR) d Q =
    X 78 35 [.ref 51, .int x1, .null, .int 0, xmk] [] (SH L, mi, ml, MR) d Q := by
  refine (R_pure0 (ins := .astore_n 2) (len := 1) (loc' := [.ref 51, .int x1, .null, .int x3, xmk]) (st' := []) (by decide +kernel) (fun _ => rfl)).trans ?_
  refine (R_iconst (n := 0) (v := 0) (by decide +kernel) (by decide +kernel)).trans ?_
  refine (R_pure0 (ins := .istore_n 3) (len := 1) (loc' := [.ref 51, .int x1, .null, .int 0, xmk]) (st' := []) (by decide +kernel) (fun _ => rfl)).trans ?_
  rfl
theorem s78_35v3 {L : Nat} {mi : Nat → Nat → Int32} {ml : Nat → Nat → Int64} {d : Nat} {Q : Option Value → xM → Prop} {x1 x3 x4 : Int32} {r2 : Nat} (hS_r2 : (SH L)[r2]? = some (4, 7)) : X 78 35 [.ref 51, .int x1, .ref r2, .int x3, .int x4] [] (SH L, mi, ml, MR) (d + 1) Q =
    if (x3 < 5) then (Xm 18 [.ref 38] (SH L, mi, ml, MR) d (fun v μ' => X 78 62 [.ref 51, .int x1, .ref r2, .int x3, .int x4] (v.toList ++ [.int (mi r2 4), .int ((mi r2 5) + x3), .ref r2]) μ' (d + 1) Q)) else (X 78 13 [.ref 51, .int (x1 + 1), .ref r2, .int x3, .int x4] [] (SH L, mi, ml, MR) (d + 1) Q) := by
  refine (R_pure0 (ins := .aload_n 2) (len := 1) (loc' := [.ref 51, .int x1, .ref r2, .int x3, .int x4]) (st' := [.ref r2]) (by decide +kernel) (fun _ => rfl)).trans ?_
  refine (R_ifnull_r (off := 53) (by decide +kernel)).trans ?_
  refine (R_pure0 (ins := .iload_n 3) (len := 1) (loc' := [.ref 51, .int x1, .ref r2, .int x3, .int x4]) (st' := [.int x3]) (by decide +kernel) (fun _ => rfl)).trans ?_
  refine (R_iconst (n := 5) (v := 5) (by decide +kernel) (by decide +kernel)).trans ?_
  refine (R_icmp_ge (off := 48) (t := 89) (by decide +kernel) (by decide +kernel)).trans (ite_congr rfl (fun c0 => ?_) (fun c0 => ?_))
  · refine (R_pure0 (ins := .aload_n 2) (len := 1) (loc' := [.ref 51, .int x1, .ref r2, .int x3, .int x4]) (st' := [.ref r2]) (by decide +kernel) (fun _ => rfl)).trans ?_
    refine (R_pure0 (ins := .aload_n 2) (len := 1) (loc' := [.ref 51, .int x1, .ref r2, .int x3, .int x4]) (st' := [.ref r2, .ref r2]) (by decide +kernel) (fun _ => rfl)).trans ?_
    refine (R_gi (i := 109) (ci := 4) (k := 5) (n := 7) (by decide +kernel) (by decide +kernel) (by decide) hS_r2).trans ?_
    refine (R_pure0 (ins := .iload_n 3) (len := 1) (loc' := [.ref 51, .int x1, .ref r2, .int x3, .int x4]) (st' := [.int x3, .int (mi r2 5), .ref r2]) (by decide +kernel) (fun _ => rfl)).trans ?_
    refine (R_pure0 (ins := .iadd) (len := 1) (loc' := [.ref 51, .int x1, .ref r2, .int x3, .int x4]) (st' := [.int ((mi r2 5) + x3), .ref r2]) (by decide +kernel) (fun _ => rfl)).trans ?_
    refine (R_pure0 (ins := .aload_n 2) (len := 1) (loc' := [.ref 51, .int x1, .ref r2, .int x3, .int x4]) (st' := [.ref r2, .int ((mi r2 5) + x3), .ref r2]) (by decide +kernel) (fun _ => rfl)).trans ?_
    refine (R_gi (i := 114) (ci := 4) (k := 4) (n := 7) (by decide +kernel) (by decide +kernel) (by decide) hS_r2).trans ?_
    refine (R_pure0 (ins := .aload_n 0) (len := 1) (loc' := [.ref 51, .int x1, .ref r2, .int x3, .int x4]) (st' := [.ref 51, .int (mi r2 4), .int ((mi r2 5) + x3), .ref r2]) (by decide +kernel) (fun _ => rfl)).trans ?_
    refine (R_gr (i := 48) (ci := 6) (k := 0) (n := 12) (b := 38) (by decide +kernel) (by decide +kernel) (by decide) rfl (SH_ref (by decide +kernel))).trans ?_
    refine (R_virt (i := 117) (f := 18) (kd := 0) (na := 0) (ml := 1) (ci := 2) (n := 5) (b := 38) (As := []) (rest := [.int (mi r2 4), .int ((mi r2 5) + x3), .ref r2]) (by decide +kernel) (by decide +kernel) (by decide) (by decide +kernel) rfl (by decide +kernel) rfl rfl (by decide +kernel) (Nat.le_of_ble_eq_true rfl)).trans ?_
    rfl
  · refine (R_iinc (k := 1) (n := 1) (x := x1) (v := (x1 + 1)) (loc' := [.ref 51, .int (x1 + 1), .ref r2, .int x3, .int x4]) (by decide +kernel) rfl rfl rfl).trans ?_
    refine (R_goto (off := (-79)) (t := 13) (by decide +kernel) (by decide +kernel)).trans ?_
    rfl
theorem s78_62v2 {L : Nat} {mi : Nat → Nat → Int32} {ml : Nat → Nat → Int64} {d : Nat} {Q : Option Value → xM → Prop} {x1 x3 x4 y z0 z1 : Int32} {r2 : Nat} (hS_r2 : (SH L)[r2]? = some (4, 7)) : X 78 62 [.ref 51, .int x1, .ref r2, .int x3, .int x4] [.int y, .int z0, .int z1, .ref r2] (SH L, mi, ml, MR) (d + 1) Q =
    Xm 59 [.ref r2, .int z1, .int z0, .int y, .int 60] (SH L, mi, ml, MR) d (fun v μ' => X 78 67 [.ref 51, .int x1, .ref r2, .int x3, .int x4] (v.toList ++ []) μ' (d + 1) Q) := by
  refine (R_bipush (n := 60) (v := 60) (by decide +kernel) (by decide +kernel)).trans ?_
  refine (R_virt (i := 120) (f := 59) (kd := 0) (na := 4) (ml := 7) (ci := 4) (n := 7) (b := r2) (As := [.int z1, .int z0, .int y, .int 60]) (rest := []) (by decide +kernel) (by decide +kernel) (by decide) (by decide +kernel) rfl (by decide +kernel) hS_r2 rfl (by decide +kernel) (Nat.le_of_ble_eq_true rfl)).trans ?_
  rfl
theorem s78_13v4 {L : Nat} {mi : Nat → Nat → Int32} {ml : Nat → Nat → Int64} {d : Nat} {Q : Option Value → xM → Prop} {x1 x3 x4 : Int32} {r2 : Nat} (hS_r2 : (SH L)[r2]? = some (4, 7)) : X 78 13 [.ref 51, .int x1, .ref r2, .int x3, .int x4] [] (SH L, mi, ml, MR) (d + 1) Q =
    Xm 16 [.ref 38] (SH L, mi, ml, MR) d (fun v μ' => X 78 21 [.ref 51, .int x1, .ref r2, .int x3, .int x4] (v.toList ++ [.int x1]) μ' (d + 1) Q) := by
  refine (R_pure0 (ins := .iload_n 1) (len := 1) (loc' := [.ref 51, .int x1, .ref r2, .int x3, .int x4]) (st' := [.int x1]) (by decide +kernel) (fun _ => rfl)).trans ?_
  refine (R_pure0 (ins := .aload_n 0) (len := 1) (loc' := [.ref 51, .int x1, .ref r2, .int x3, .int x4]) (st' := [.ref 51, .int x1]) (by decide +kernel) (fun _ => rfl)).trans ?_
  refine (R_gr (i := 48) (ci := 6) (k := 0) (n := 12) (b := 38) (by decide +kernel) (by decide +kernel) (by decide) rfl (SH_ref (by decide +kernel))).trans ?_
  refine (R_virt (i := 102) (f := 16) (kd := 0) (na := 0) (ml := 1) (ci := 2) (n := 5) (b := 38) (As := []) (rest := [.int x1]) (by decide +kernel) (by decide +kernel) (by decide) (by decide +kernel) rfl (by decide +kernel) rfl rfl (by decide +kernel) (Nat.le_of_ble_eq_true rfl)).trans ?_
  rfl
theorem s78_67v2 {L : Nat} {mi : Nat → Nat → Int32} {ml : Nat → Nat → Int64} {d : Nat} {Q : Option Value → xM → Prop} {x1 x3 x4 y : Int32} {r2 : Nat} (hS_r2 : (SH L)[r2]? = some (4, 7)) : X 78 67 [.ref 51, .int x1, .ref r2, .int x3, .int x4] [.int y] (SH L, mi, ml, MR) (d + 1) Q =
    Xm 91 [.ref 58, .int ((x1 * 5) + x3), .int y] (SH L, mi, ml, MR) d (fun v μ' => X 78 83 [.ref 51, .int x1, .ref r2, .int x3, .int y] (v.toList ++ []) μ' (d + 1) Q) := by
  refine (R_pure0 (ins := .istore 4) (len := 2) (loc' := [.ref 51, .int x1, .ref r2, .int x3, .int y]) (st' := []) (by decide +kernel) (fun _ => rfl)).trans ?_
  refine (R_pure0 (ins := .aload_n 0) (len := 1) (loc' := [.ref 51, .int x1, .ref r2, .int x3, .int y]) (st' := [.ref 51]) (by decide +kernel) (fun _ => rfl)).trans ?_
  refine (R_gr (i := 26) (ci := 6) (k := 5) (n := 12) (b := 58) (by decide +kernel) (by decide +kernel) (by decide) rfl (SH_ref (by decide +kernel))).trans ?_
  refine (R_pure0 (ins := .iload_n 1) (len := 1) (loc' := [.ref 51, .int x1, .ref r2, .int x3, .int y]) (st' := [.int x1, .ref 58]) (by decide +kernel) (fun _ => rfl)).trans ?_
  refine (R_iconst (n := 5) (v := 5) (by decide +kernel) (by decide +kernel)).trans ?_
  refine (R_pure0 (ins := .imul) (len := 1) (loc' := [.ref 51, .int x1, .ref r2, .int x3, .int y]) (st' := [.int (x1 * 5), .ref 58]) (by decide +kernel) (fun _ => rfl)).trans ?_
  refine (R_pure0 (ins := .iload_n 3) (len := 1) (loc' := [.ref 51, .int x1, .ref r2, .int x3, .int y]) (st' := [.int x3, .int (x1 * 5), .ref 58]) (by decide +kernel) (fun _ => rfl)).trans ?_
  refine (R_pure0 (ins := .iadd) (len := 1) (loc' := [.ref 51, .int x1, .ref r2, .int x3, .int y]) (st' := [.int ((x1 * 5) + x3), .ref 58]) (by decide +kernel) (fun _ => rfl)).trans ?_
  refine (R_pure0 (ins := .iload 4) (len := 2) (loc' := [.ref 51, .int x1, .ref r2, .int x3, .int y]) (st' := [.int y, .int ((x1 * 5) + x3), .ref 58]) (by decide +kernel) (fun _ => rfl)).trans ?_
  refine (R_virt (i := 124) (f := 91) (kd := 0) (na := 2) (ml := 3) (ci := 8) (n := 2) (b := 58) (As := [.int ((x1 * 5) + x3), .int y]) (rest := []) (by decide +kernel) (by decide +kernel) (by decide) (by decide +kernel) rfl (by decide +kernel) rfl rfl (by decide +kernel) (Nat.le_of_ble_eq_true rfl)).trans ?_
  rfl
theorem s78_21v4 {L : Nat} {mi : Nat → Nat → Int32} {ml : Nat → Nat → Int64} {d : Nat} {Q : Option Value → xM → Prop} {x1 x3 x4 y z0 : Int32} {r2 : Nat} (hS_r2 : (SH L)[r2]? = some (4, 7)) : X 78 21 [.ref 51, .int x1, .ref r2, .int x3, .int x4] [.int y, .int z0] (SH L, mi, ml, MR) (d + 1) Q =
    if (z0 < y) then (Xm 15 [.ref 38, .int x1] (SH L, mi, ml, MR) d (fun v μ' => X 78 32 [.ref 51, .int x1, .ref r2, .int x3, .int x4] (v.toList ++ []) μ' (d + 1) Q)) else (Q none (SH L, mi, ml, MR)) := by
  refine (R_icmp_ge (off := 74) (t := 95) (by decide +kernel) (by decide +kernel)).trans (ite_congr rfl (fun c0 => ?_) (fun c0 => ?_))
  · refine (R_pure0 (ins := .aload_n 0) (len := 1) (loc' := [.ref 51, .int x1, .ref r2, .int x3, .int x4]) (st' := [.ref 51]) (by decide +kernel) (fun _ => rfl)).trans ?_
    refine (R_gr (i := 48) (ci := 6) (k := 0) (n := 12) (b := 38) (by decide +kernel) (by decide +kernel) (by decide) rfl (SH_ref (by decide +kernel))).trans ?_
    refine (R_pure0 (ins := .iload_n 1) (len := 1) (loc' := [.ref 51, .int x1, .ref r2, .int x3, .int x4]) (st' := [.int x1, .ref 38]) (by decide +kernel) (fun _ => rfl)).trans ?_
    refine (R_virt (i := 105) (f := 15) (kd := 0) (na := 1) (ml := 2) (ci := 2) (n := 5) (b := 38) (As := [.int x1]) (rest := []) (by decide +kernel) (by decide +kernel) (by decide) (by decide +kernel) rfl (by decide +kernel) rfl rfl (by decide +kernel) (Nat.le_of_ble_eq_true rfl)).trans ?_
    rfl
  · exact R_return (by decide +kernel) (by decide +kernel)
theorem s78_32v4 {L : Nat} {mi : Nat → Nat → Int32} {ml : Nat → Nat → Int64} {d : Nat} {Q : Option Value → xM → Prop} {x1 x3 x4 : Int32} {r2 ry : Nat} (hS_r2 : (SH L)[r2]? = some (4, 7)) (hS_ry : (SH L)[ry]? = some (4, 7)) : X 78 32 [.ref 51, .int x1, .ref r2, .int x3, .int x4] [.ref ry] (SH L, mi, ml, MR) d Q =
    X 78 35 [.ref 51, .int x1, .ref ry, .int 0, .int x4] [] (SH L, mi, ml, MR) d Q := by
  refine (R_pure0 (ins := .astore_n 2) (len := 1) (loc' := [.ref 51, .int x1, .ref ry, .int x3, .int x4]) (st' := []) (by decide +kernel) (fun _ => rfl)).trans ?_
  refine (R_iconst (n := 0) (v := 0) (by decide +kernel) (by decide +kernel)).trans ?_
  refine (R_pure0 (ins := .istore_n 3) (len := 1) (loc' := [.ref 51, .int x1, .ref ry, .int 0, .int x4]) (st' := []) (by decide +kernel) (fun _ => rfl)).trans ?_
  rfl
theorem s78_32nv4 {L : Nat} {mi : Nat → Nat → Int32} {ml : Nat → Nat → Int64} {d : Nat} {Q : Option Value → xM → Prop} {x1 x3 x4 : Int32} {r2 : Nat} (hS_r2 : (SH L)[r2]? = some (4, 7)) : X 78 32 [.ref 51, .int x1, .ref r2, .int x3, .int x4] [.null] (SH L, mi, ml, MR) d Q =
    X 78 35 [.ref 51, .int x1, .null, .int 0, .int x4] [] (SH L, mi, ml, MR) d Q := by
  refine (R_pure0 (ins := .astore_n 2) (len := 1) (loc' := [.ref 51, .int x1, .null, .int x3, .int x4]) (st' := []) (by decide +kernel) (fun _ => rfl)).trans ?_
  refine (R_iconst (n := 0) (v := 0) (by decide +kernel) (by decide +kernel)).trans ?_
  refine (R_pure0 (ins := .istore_n 3) (len := 1) (loc' := [.ref 51, .int x1, .null, .int 0, .int x4]) (st' := []) (by decide +kernel) (fun _ => rfl)).trans ?_
  rfl
theorem s78_35v4 {L : Nat} {mi : Nat → Nat → Int32} {ml : Nat → Nat → Int64} {d : Nat} {Q : Option Value → xM → Prop} {x1 x3 x4 : Int32} : X 78 35 [.ref 51, .int x1, .null, .int x3, .int x4] [] (SH L, mi, ml, MR) d Q =
    X 78 13 [.ref 51, .int (x1 + 1), .null, .int x3, .int x4] [] (SH L, mi, ml, MR) d Q := by
  refine (R_pure0 (ins := .aload_n 2) (len := 1) (loc' := [.ref 51, .int x1, .null, .int x3, .int x4]) (st' := [.null]) (by decide +kernel) (fun _ => rfl)).trans ?_
  refine (R_ifnull_n (off := 53) (t := 89) (by decide +kernel) (by decide +kernel)).trans ?_
  refine (R_iinc (k := 1) (n := 1) (x := x1) (v := (x1 + 1)) (loc' := [.ref 51, .int (x1 + 1), .null, .int x3, .int x4]) (by decide +kernel) rfl rfl rfl).trans ?_
  refine (R_goto (off := (-79)) (t := 13) (by decide +kernel) (by decide +kernel)).trans ?_
  rfl
theorem s78_13v5 {L : Nat} {mi : Nat → Nat → Int32} {ml : Nat → Nat → Int64} {d : Nat} {Q : Option Value → xM → Prop} {x1 x3 x4 : Int32} : X 78 13 [.ref 51, .int x1, .null, .int x3, .int x4] [] (SH L, mi, ml, MR) (d + 1) Q =
    Xm 16 [.ref 38] (SH L, mi, ml, MR) d (fun v μ' => X 78 21 [.ref 51, .int x1, .null, .int x3, .int x4] (v.toList ++ [.int x1]) μ' (d + 1) Q) := by
  refine (R_pure0 (ins := .iload_n 1) (len := 1) (loc' := [.ref 51, .int x1, .null, .int x3, .int x4]) (st' := [.int x1]) (by decide +kernel) (fun _ => rfl)).trans ?_
  refine (R_pure0 (ins := .aload_n 0) (len := 1) (loc' := [.ref 51, .int x1, .null, .int x3, .int x4]) (st' := [.ref 51, .int x1]) (by decide +kernel) (fun _ => rfl)).trans ?_
  refine (R_gr (i := 48) (ci := 6) (k := 0) (n := 12) (b := 38) (by decide +kernel) (by decide +kernel) (by decide) rfl (SH_ref (by decide +kernel))).trans ?_
  refine (R_virt (i := 102) (f := 16) (kd := 0) (na := 0) (ml := 1) (ci := 2) (n := 5) (b := 38) (As := []) (rest := [.int x1]) (by decide +kernel) (by decide +kernel) (by decide) (by decide +kernel) rfl (by decide +kernel) rfl rfl (by decide +kernel) (Nat.le_of_ble_eq_true rfl)).trans ?_
  rfl
theorem s78_21v5 {L : Nat} {mi : Nat → Nat → Int32} {ml : Nat → Nat → Int64} {d : Nat} {Q : Option Value → xM → Prop} {x1 x3 x4 y z0 : Int32} : X 78 21 [.ref 51, .int x1, .null, .int x3, .int x4] [.int y, .int z0] (SH L, mi, ml, MR) (d + 1) Q =
    if (z0 < y) then (Xm 15 [.ref 38, .int x1] (SH L, mi, ml, MR) d (fun v μ' => X 78 32 [.ref 51, .int x1, .null, .int x3, .int x4] (v.toList ++ []) μ' (d + 1) Q)) else (Q none (SH L, mi, ml, MR)) := by
  refine (R_icmp_ge (off := 74) (t := 95) (by decide +kernel) (by decide +kernel)).trans (ite_congr rfl (fun c0 => ?_) (fun c0 => ?_))
  · refine (R_pure0 (ins := .aload_n 0) (len := 1) (loc' := [.ref 51, .int x1, .null, .int x3, .int x4]) (st' := [.ref 51]) (by decide +kernel) (fun _ => rfl)).trans ?_
    refine (R_gr (i := 48) (ci := 6) (k := 0) (n := 12) (b := 38) (by decide +kernel) (by decide +kernel) (by decide) rfl (SH_ref (by decide +kernel))).trans ?_
    refine (R_pure0 (ins := .iload_n 1) (len := 1) (loc' := [.ref 51, .int x1, .null, .int x3, .int x4]) (st' := [.int x1, .ref 38]) (by decide +kernel) (fun _ => rfl)).trans ?_
    refine (R_virt (i := 105) (f := 15) (kd := 0) (na := 1) (ml := 2) (ci := 2) (n := 5) (b := 38) (As := [.int x1]) (rest := []) (by decide +kernel) (by decide +kernel) (by decide) (by decide +kernel) rfl (by decide +kernel) rfl rfl (by decide +kernel) (Nat.le_of_ble_eq_true rfl)).trans ?_
    rfl
  · exact R_return (by decide +kernel) (by decide +kernel)
theorem s78_32v5 {L : Nat} {mi : Nat → Nat → Int32} {ml : Nat → Nat → Int64} {d : Nat} {Q : Option Value → xM → Prop} {x1 x3 x4 : Int32} {ry : Nat} (hS_ry : (SH L)[ry]? = some (4, 7)) : X 78 32 [.ref 51, .int x1, .null, .int x3, .int x4] [.ref ry] (SH L, mi, ml, MR) d Q =
    X 78 35 [.ref 51, .int x1, .ref ry, .int 0, .int x4] [] (SH L, mi, ml, MR) d Q := by
  refine (R_pure0 (ins := .astore_n 2) (len := 1) (loc' := [.ref 51, .int x1, .ref ry, .int x3, .int x4]) (st' := []) (by decide +kernel) (fun _ => rfl)).trans ?_
  refine (R_iconst (n := 0) (v := 0) (by decide +kernel) (by decide +kernel)).trans ?_
  refine (R_pure0 (ins := .istore_n 3) (len := 1) (loc' := [.ref 51, .int x1, .ref ry, .int 0, .int x4]) (st' := []) (by decide +kernel) (fun _ => rfl)).trans ?_
  rfl
theorem s78_32nv5 {L : Nat} {mi : Nat → Nat → Int32} {ml : Nat → Nat → Int64} {d : Nat} {Q : Option Value → xM → Prop} {x1 x3 x4 : Int32} : X 78 32 [.ref 51, .int x1, .null, .int x3, .int x4] [.null] (SH L, mi, ml, MR) d Q =
    X 78 35 [.ref 51, .int x1, .null, .int 0, .int x4] [] (SH L, mi, ml, MR) d Q := by
  refine (R_pure0 (ins := .astore_n 2) (len := 1) (loc' := [.ref 51, .int x1, .null, .int x3, .int x4]) (st' := []) (by decide +kernel) (fun _ => rfl)).trans ?_
  refine (R_iconst (n := 0) (v := 0) (by decide +kernel) (by decide +kernel)).trans ?_
  refine (R_pure0 (ins := .istore_n 3) (len := 1) (loc' := [.ref 51, .int x1, .null, .int 0, .int x4]) (st' := []) (by decide +kernel) (fun _ => rfl)).trans ?_
  rfl
theorem s79 {L : Nat} {mi : Nat → Nat → Int32} {ml : Nat → Nat → Int64} {d : Nat} {Q : Option Value → xM → Prop} {x1 x2 : Int32} : Xm 79 [.ref 51, .int x1, .int x2] (SH L, mi, ml, MR) (d + 1) Q =
    if ((mi 51 7) = (-9)) then (Xm 88 [.ref 52] (SH L, mi, ml, MR) d (fun v μ' => X 79 26 [.ref 51, .int x1, .int x2, xmk, xmk] (v.toList ++ [.int x1]) μ' (d + 1) Q)) else (if (x2 < (mi 51 7)) then (Xm 88 [.ref 52] (SH L, mi, ml, MR) d (fun v μ' => X 79 26 [.ref 51, .int x1, .int x2, xmk, xmk] (v.toList ++ [.int x1]) μ' (d + 1) Q)) else (Q none (SH L, mi, ml, MR))) := by
  rw [Xm_ent (n := 5) (loc := [.ref 51, .int x1, .int x2, xmk, xmk]) (by decide +kernel) rfl]
  refine (R_pure0 (ins := .aload_n 0) (len := 1) (loc' := [.ref 51, .int x1, .int x2, xmk, xmk]) (st' := [.ref 51]) (by decide +kernel) (fun _ => rfl)).trans ?_
  refine (R_gi (i := 32) (ci := 6) (k := 7) (n := 12) (by decide +kernel) (by decide +kernel) (by decide) rfl).trans ?_
  refine (R_bipush (n := (-9)) (v := (-9)) (by decide +kernel) (by decide +kernel)).trans ?_
  refine (R_icmp_eq (off := 12) (t := 18) (by decide +kernel) (by decide +kernel)).trans (ite_congr rfl (fun c0 => ?_) (fun c0 => ?_))
  · refine (R_pure0 (ins := .iload_n 1) (len := 1) (loc' := [.ref 51, .int x1, .int x2, xmk, xmk]) (st' := [.int x1]) (by decide +kernel) (fun _ => rfl)).trans ?_
    refine (R_pure0 (ins := .aload_n 0) (len := 1) (loc' := [.ref 51, .int x1, .int x2, xmk, xmk]) (st' := [.ref 51, .int x1]) (by decide +kernel) (fun _ => rfl)).trans ?_
    refine (R_gr (i := 14) (ci := 6) (k := 2) (n := 12) (b := 52) (by decide +kernel) (by decide +kernel) (by decide) rfl (SH_ref (by decide +kernel))).trans ?_
    refine (R_virt (i := 69) (f := 88) (kd := 0) (na := 0) (ml := 1) (ci := 8) (n := 2) (b := 52) (As := []) (rest := [.int x1]) (by decide +kernel) (by decide +kernel) (by decide) (by decide +kernel) rfl (by decide +kernel) rfl rfl (by decide +kernel) (Nat.le_of_ble_eq_true rfl)).trans ?_
    rfl
  · refine (R_pure0 (ins := .iload_n 2) (len := 1) (loc' := [.ref 51, .int x1, .int x2, xmk, xmk]) (st' := [.int x2]) (by decide +kernel) (fun _ => rfl)).trans ?_
    refine (R_pure0 (ins := .aload_n 0) (len := 1) (loc' := [.ref 51, .int x1, .int x2, xmk, xmk]) (st' := [.ref 51, .int x2]) (by decide +kernel) (fun _ => rfl)).trans ?_
    refine (R_gi (i := 32) (ci := 6) (k := 7) (n := 12) (by decide +kernel) (by decide +kernel) (by decide) rfl).trans ?_
    refine (R_icmp_lt (off := 4) (t := 18) (by decide +kernel) (by decide +kernel)).trans (ite_congr rfl (fun c1 => ?_) (fun c1 => ?_))
    · refine (R_pure0 (ins := .iload_n 1) (len := 1) (loc' := [.ref 51, .int x1, .int x2, xmk, xmk]) (st' := [.int x1]) (by decide +kernel) (fun _ => rfl)).trans ?_
      refine (R_pure0 (ins := .aload_n 0) (len := 1) (loc' := [.ref 51, .int x1, .int x2, xmk, xmk]) (st' := [.ref 51, .int x1]) (by decide +kernel) (fun _ => rfl)).trans ?_
      refine (R_gr (i := 14) (ci := 6) (k := 2) (n := 12) (b := 52) (by decide +kernel) (by decide +kernel) (by decide) rfl (SH_ref (by decide +kernel))).trans ?_
      refine (R_virt (i := 69) (f := 88) (kd := 0) (na := 0) (ml := 1) (ci := 8) (n := 2) (b := 52) (As := []) (rest := [.int x1]) (by decide +kernel) (by decide +kernel) (by decide) (by decide +kernel) rfl (by decide +kernel) rfl rfl (by decide +kernel) (Nat.le_of_ble_eq_true rfl)).trans ?_
      rfl
    · exact R_return (by decide +kernel) (by decide +kernel)
theorem s79_26 {L : Nat} {mi : Nat → Nat → Int32} {ml : Nat → Nat → Int64} {d : Nat} {Q : Option Value → xM → Prop} {x1 x2 y z0 : Int32} : X 79 26 [.ref 51, .int x1, .int x2, xmk, xmk] [.int y, .int z0] (SH L, mi, ml, MR) (d + 1) Q =
    if (z0 < y) then (X 79 48 [.ref 51, .int x1, .int x2, .int 0, xmk] [] (SH L, mi, ml, MR) (d + 1) Q) else (Xm 97 [.ref 56, .ref 54] (SH L, (xw mi 51 7 x2), ml, MR) d (fun v μ' => X 79 45 [.ref 51, .int x1, .int x2, xmk, xmk] (v.toList ++ []) μ' (d + 1) Q)) := by
  refine (R_icmp_lt (off := 20) (t := 46) (by decide +kernel) (by decide +kernel)).trans (ite_congr rfl (fun c0 => ?_) (fun c0 => ?_))
  · refine (R_iconst (n := 0) (v := 0) (by decide +kernel) (by decide +kernel)).trans ?_
    refine (R_pure0 (ins := .istore_n 3) (len := 1) (loc' := [.ref 51, .int x1, .int x2, .int 0, xmk]) (st' := []) (by decide +kernel) (fun _ => rfl)).trans ?_
    rfl
  · refine (R_pure0 (ins := .aload_n 0) (len := 1) (loc' := [.ref 51, .int x1, .int x2, xmk, xmk]) (st' := [.ref 51]) (by decide +kernel) (fun _ => rfl)).trans ?_
    refine (R_pure0 (ins := .iload_n 2) (len := 1) (loc' := [.ref 51, .int x1, .int x2, xmk, xmk]) (st' := [.int x2, .ref 51]) (by decide +kernel) (fun _ => rfl)).trans ?_
    refine (R_pi (i := 32) (ci := 6) (k := 7) (n := 12) (by decide +kernel) (by decide +kernel) (by decide) rfl).trans ?_
    refine (R_pure0 (ins := .aload_n 0) (len := 1) (loc' := [.ref 51, .int x1, .int x2, xmk, xmk]) (st' := [.ref 51]) (by decide +kernel) (fun _ => rfl)).trans ?_
    refine (R_gr (i := 23) (ci := 6) (k := 4) (n := 12) (b := 56) (by decide +kernel) (by decide +kernel) (by decide) rfl (SH_ref (by decide +kernel))).trans ?_
    refine (R_pure0 (ins := .aload_n 0) (len := 1) (loc' := [.ref 51, .int x1, .int x2, xmk, xmk]) (st' := [.ref 51, .ref 56]) (by decide +kernel) (fun _ => rfl)).trans ?_
    refine (R_gr (i := 20) (ci := 6) (k := 3) (n := 12) (b := 54) (by decide +kernel) (by decide +kernel) (by decide) rfl (SH_ref (by decide +kernel))).trans ?_
    refine (R_virt (i := 56) (f := 97) (kd := 0) (na := 1) (ml := 2) (ci := 8) (n := 2) (b := 56) (As := [.ref 54]) (rest := []) (by decide +kernel) (by decide +kernel) (by decide) (by decide +kernel) rfl (by decide +kernel) rfl rfl (by decide +kernel) (Nat.le_of_ble_eq_true rfl)).trans ?_
    rfl
theorem s79_48 {L : Nat} {mi : Nat → Nat → Int32} {ml : Nat → Nat → Int64} {d : Nat} {Q : Option Value → xM → Prop} {x1 x2 x3 : Int32} : X 79 48 [.ref 51, .int x1, .int x2, .int x3, xmk] [] (SH L, mi, ml, MR) (d + 1) Q =
    Xm 16 [.ref 38] (SH L, mi, ml, MR) d (fun v μ' => X 79 56 [.ref 51, .int x1, .int x2, .int x3, xmk] (v.toList ++ [.int x3]) μ' (d + 1) Q) := by
  refine (R_pure0 (ins := .iload_n 3) (len := 1) (loc' := [.ref 51, .int x1, .int x2, .int x3, xmk]) (st' := [.int x3]) (by decide +kernel) (fun _ => rfl)).trans ?_
  refine (R_pure0 (ins := .aload_n 0) (len := 1) (loc' := [.ref 51, .int x1, .int x2, .int x3, xmk]) (st' := [.ref 51, .int x3]) (by decide +kernel) (fun _ => rfl)).trans ?_
  refine (R_gr (i := 48) (ci := 6) (k := 0) (n := 12) (b := 38) (by decide +kernel) (by decide +kernel) (by decide) rfl (SH_ref (by decide +kernel))).trans ?_
  refine (R_virt (i := 102) (f := 16) (kd := 0) (na := 0) (ml := 1) (ci := 2) (n := 5) (b := 38) (As := []) (rest := [.int x3]) (by decide +kernel) (by decide +kernel) (by decide) (by decide +kernel) rfl (by decide +kernel) rfl rfl (by decide +kernel) (Nat.le_of_ble_eq_true rfl)).trans ?_
  rfl
theorem s79_45 {L : Nat} {mi : Nat → Nat → Int32} {ml : Nat → Nat → Int64} {d : Nat} {Q : Option Value → xM → Prop} {x1 x2 : Int32} : X 79 45 [.ref 51, .int x1, .int x2, xmk, xmk] [] (SH L, mi, ml, MR) d Q =
    Q none (SH L, mi, ml, MR) := by
  exact R_return (by decide +kernel) (by decide +kernel)
theorem s79_56 {L : Nat} {mi : Nat → Nat → Int32} {ml : Nat → Nat → Int64} {d : Nat} {Q : Option Value → xM → Prop} {x1 x2 x3 y z0 : Int32} : X 79 56 [.ref 51, .int x1, .int x2, .int x3, xmk] [.int y, .int z0] (SH L, mi, ml, MR) (d + 1) Q =
    if (z0 < y) then (Xm 90 [.ref 52, .int x1] (SH L, mi, ml, MR) d (fun v μ' => X 79 69 [.ref 51, .int x1, .int x2, .int x3, xmk] (v.toList ++ [.int x3, .ref 51]) μ' (d + 1) Q)) else (Q none (SH L, mi, ml, MR)) := by
  refine (R_icmp_ge (off := 86) (t := 142) (by decide +kernel) (by decide +kernel)).trans (ite_congr rfl (fun c0 => ?_) (fun c0 => ?_))
  · refine (R_pure0 (ins := .aload_n 0) (len := 1) (loc' := [.ref 51, .int x1, .int x2, .int x3, xmk]) (st' := [.ref 51]) (by decide +kernel) (fun _ => rfl)).trans ?_
    refine (R_pure0 (ins := .iload_n 3) (len := 1) (loc' := [.ref 51, .int x1, .int x2, .int x3, xmk]) (st' := [.int x3, .ref 51]) (by decide +kernel) (fun _ => rfl)).trans ?_
    refine (R_pure0 (ins := .aload_n 0) (len := 1) (loc' := [.ref 51, .int x1, .int x2, .int x3, xmk]) (st' := [.ref 51, .int x3, .ref 51]) (by decide +kernel) (fun _ => rfl)).trans ?_
    refine (R_gr (i := 14) (ci := 6) (k := 2) (n := 12) (b := 52) (by decide +kernel) (by decide +kernel) (by decide) rfl (SH_ref (by decide +kernel))).trans ?_
    refine (R_pure0 (ins := .iload_n 1) (len := 1) (loc' := [.ref 51, .int x1, .int x2, .int x3, xmk]) (st' := [.int x1, .ref 52, .int x3, .ref 51]) (by decide +kernel) (fun _ => rfl)).trans ?_
    refine (R_virt (i := 81) (f := 90) (kd := 0) (na := 1) (ml := 2) (ci := 8) (n := 2) (b := 52) (As := [.int x1]) (rest := [.int x3, .ref 51]) (by decide +kernel) (by decide +kernel) (by decide) (by decide +kernel) rfl (by decide +kernel) rfl rfl (by decide +kernel) (Nat.le_of_ble_eq_true rfl)).trans ?_
    rfl
  · exact R_return (by decide +kernel) (by decide +kernel)
theorem s79_69 {L : Nat} {mi : Nat → Nat → Int32} {ml : Nat → Nat → Int64} {d : Nat} {Q : Option Value → xM → Prop} {x1 x2 x3 y z0 : Int32} : X 79 69 [.ref 51, .int x1, .int x2, .int x3, xmk] [.int y, .int z0, .ref 51] (SH L, mi, ml, MR) (d + 1) Q =
    Xm 80 [.ref 51, .int z0, .int y, .int x2] (SH L, mi, ml, MR) d (fun v μ' => X 79 73 [.ref 51, .int x1, .int x2, .int x3, xmk] (v.toList ++ []) μ' (d + 1) Q) := by
  refine (R_pure0 (ins := .iload_n 2) (len := 1) (loc' := [.ref 51, .int x1, .int x2, .int x3, xmk]) (st' := [.int x2, .int y, .int z0, .ref 51]) (by decide +kernel) (fun _ => rfl)).trans ?_
  refine (R_virt (i := 127) (f := 80) (kd := 0) (na := 3) (ml := 7) (ci := 6) (n := 12) (b := 51) (As := [.int z0, .int y, .int x2]) (rest := []) (by decide +kernel) (by decide +kernel) (by decide) (by decide +kernel) rfl (by decide +kernel) rfl rfl (by decide +kernel) (Nat.le_of_ble_eq_true rfl)).trans ?_
  rfl
theorem s79_73 {L : Nat} {mi : Nat → Nat → Int32} {ml : Nat → Nat → Int64} {d : Nat} {Q : Option Value → xM → Prop} {x1 x2 x3 y : Int32} : X 79 73 [.ref 51, .int x1, .int x2, .int x3, xmk] [.int y] (SH L, mi, ml, MR) (d + 1) Q =
    if (y = (-9)) then (X 79 48 [.ref 51, .int x1, .int x2, .int (x3 + 1), .int y] [] (SH L, mi, ml, MR) (d + 1) Q) else (Xm 91 [.ref 54, .int x1, .int x3] (SH L, mi, ml, MR) d (fun v μ' => X 79 91 [.ref 51, .int x1, .int x2, .int x3, .int y] (v.toList ++ []) μ' (d + 1) Q)) := by
  refine (R_pure0 (ins := .istore 4) (len := 2) (loc' := [.ref 51, .int x1, .int x2, .int x3, .int y]) (st' := []) (by decide +kernel) (fun _ => rfl)).trans ?_
  refine (R_pure0 (ins := .iload 4) (len := 2) (loc' := [.ref 51, .int x1, .int x2, .int x3, .int y]) (st' := [.int y]) (by decide +kernel) (fun _ => rfl)).trans ?_
  refine (R_bipush (n := (-9)) (v := (-9)) (by decide +kernel) (by decide +kernel)).trans ?_
  refine (R_icmp_eq (off := 57) (t := 136) (by decide +kernel) (by decide +kernel)).trans (ite_congr rfl (fun c0 => ?_) (fun c0 => ?_))
  · refine (R_iinc (k := 3) (n := 1) (x := x3) (v := (x3 + 1)) (loc' := [.ref 51, .int x1, .int x2, .int (x3 + 1), .int y]) (by decide +kernel) rfl rfl rfl).trans ?_
    refine (R_goto (off := (-91)) (t := 48) (by decide +kernel) (by decide +kernel)).trans ?_
    rfl
  · refine (R_pure0 (ins := .aload_n 0) (len := 1) (loc' := [.ref 51, .int x1, .int x2, .int x3, .int y]) (st' := [.ref 51]) (by decide +kernel) (fun _ => rfl)).trans ?_
    refine (R_gr (i := 20) (ci := 6) (k := 3) (n := 12) (b := 54) (by decide +kernel) (by decide +kernel) (by decide) rfl (SH_ref (by decide +kernel))).trans ?_
    refine (R_pure0 (ins := .iload_n 1) (len := 1) (loc' := [.ref 51, .int x1, .int x2, .int x3, .int y]) (st' := [.int x1, .ref 54]) (by decide +kernel) (fun _ => rfl)).trans ?_
    refine (R_pure0 (ins := .iload_n 3) (len := 1) (loc' := [.ref 51, .int x1, .int x2, .int x3, .int y]) (st' := [.int x3, .int x1, .ref 54]) (by decide +kernel) (fun _ => rfl)).trans ?_
    refine (R_virt (i := 124) (f := 91) (kd := 0) (na := 2) (ml := 3) (ci := 8) (n := 2) (b := 54) (As := [.int x1, .int x3]) (rest := []) (by decide +kernel) (by decide +kernel) (by decide) (by decide +kernel) rfl (by decide +kernel) rfl rfl (by decide +kernel) (Nat.le_of_ble_eq_true rfl)).trans ?_
    rfl
theorem s79_48v2 {L : Nat} {mi : Nat → Nat → Int32} {ml : Nat → Nat → Int64} {d : Nat} {Q : Option Value → xM → Prop} {x1 x2 x3 x4 : Int32} : X 79 48 [.ref 51, .int x1, .int x2, .int x3, .int x4] [] (SH L, mi, ml, MR) (d + 1) Q =
    Xm 16 [.ref 38] (SH L, mi, ml, MR) d (fun v μ' => X 79 56 [.ref 51, .int x1, .int x2, .int x3, .int x4] (v.toList ++ [.int x3]) μ' (d + 1) Q) := by
  refine (R_pure0 (ins := .iload_n 3) (len := 1) (loc' := [.ref 51, .int x1, .int x2, .int x3, .int x4]) (st' := [.int x3]) (by decide +kernel) (fun _ => rfl)).trans ?_
  refine (R_pure0 (ins := .aload_n 0) (len := 1) (loc' := [.ref 51, .int x1, .int x2, .int x3, .int x4]) (st' := [.ref 51, .int x3]) (by decide +kernel) (fun _ => rfl)).trans ?_
  refine (R_gr (i := 48) (ci := 6) (k := 0) (n := 12) (b := 38) (by decide +kernel) (by decide +kernel) (by decide) rfl (SH_ref (by decide +kernel))).trans ?_
  refine (R_virt (i := 102) (f := 16) (kd := 0) (na := 0) (ml := 1) (ci := 2) (n := 5) (b := 38) (As := []) (rest := [.int x3]) (by decide +kernel) (by decide +kernel) (by decide) (by decide +kernel) rfl (by decide +kernel) rfl rfl (by decide +kernel) (Nat.le_of_ble_eq_true rfl)).trans ?_
  rfl
theorem s79_91 {L : Nat} {mi : Nat → Nat → Int32} {ml : Nat → Nat → Int64} {d : Nat} {Q : Option Value → xM → Prop} {x1 x2 x3 x4 : Int32} : X 79 91 [.ref 51, .int x1, .int x2, .int x3, .int x4] [] (SH L, mi, ml, MR) (d + 1) Q =
    Xm 90 [.ref 60, .int x3] (SH L, mi, ml, MR) d (fun v μ' => X 79 104 [.ref 51, .int x1, .int x2, .int x3, .int x4] (v.toList ++ [.int x3, .ref 60]) μ' (d + 1) Q) := by
  refine (R_pure0 (ins := .aload_n 0) (len := 1) (loc' := [.ref 51, .int x1, .int x2, .int x3, .int x4]) (st' := [.ref 51]) (by decide +kernel) (fun _ => rfl)).trans ?_
  refine (R_gr (i := 29) (ci := 6) (k := 6) (n := 12) (b := 60) (by decide +kernel) (by decide +kernel) (by decide) rfl (SH_ref (by decide +kernel))).trans ?_
  refine (R_pure0 (ins := .iload_n 3) (len := 1) (loc' := [.ref 51, .int x1, .int x2, .int x3, .int x4]) (st' := [.int x3, .ref 60]) (by decide +kernel) (fun _ => rfl)).trans ?_
  refine (R_pure0 (ins := .aload_n 0) (len := 1) (loc' := [.ref 51, .int x1, .int x2, .int x3, .int x4]) (st' := [.ref 51, .int x3, .ref 60]) (by decide +kernel) (fun _ => rfl)).trans ?_
  refine (R_gr (i := 29) (ci := 6) (k := 6) (n := 12) (b := 60) (by decide +kernel) (by decide +kernel) (by decide) rfl (SH_ref (by decide +kernel))).trans ?_
  refine (R_pure0 (ins := .iload_n 3) (len := 1) (loc' := [.ref 51, .int x1, .int x2, .int x3, .int x4]) (st' := [.int x3, .ref 60, .int x3, .ref 60]) (by decide +kernel) (fun _ => rfl)).trans ?_
  refine (R_virt (i := 81) (f := 90) (kd := 0) (na := 1) (ml := 2) (ci := 8) (n := 2) (b := 60) (As := [.int x3]) (rest := [.int x3, .ref 60]) (by decide +kernel) (by decide +kernel) (by decide) (by decide +kernel) rfl (by decide +kernel) rfl rfl (by decide +kernel) (Nat.le_of_ble_eq_true rfl)).trans ?_
  rfl
theorem s79_56v2 {L : Nat} {mi : Nat → Nat → Int32} {ml : Nat → Nat → Int64} {d : Nat} {Q : Option Value → xM → Prop} {x1 x2 x3 x4 y z0 : Int32} : X 79 56 [.ref 51, .int x1, .int x2, .int x3, .int x4] [.int y, .int z0] (SH L, mi, ml, MR) (d + 1) Q =
    if (z0 < y) then (Xm 90 [.ref 52, .int x1] (SH L, mi, ml, MR) d (fun v μ' => X 79 69 [.ref 51, .int x1, .int x2, .int x3, .int x4] (v.toList ++ [.int x3, .ref 51]) μ' (d + 1) Q)) else (Q none (SH L, mi, ml, MR)) := by
  refine (R_icmp_ge (off := 86) (t := 142) (by decide +kernel) (by decide +kernel)).trans (ite_congr rfl (fun c0 => ?_) (fun c0 => ?_))
  · refine (R_pure0 (ins := .aload_n 0) (len := 1) (loc' := [.ref 51, .int x1, .int x2, .int x3, .int x4]) (st' := [.ref 51]) (by decide +kernel) (fun _ => rfl)).trans ?_
    refine (R_pure0 (ins := .iload_n 3) (len := 1) (loc' := [.ref 51, .int x1, .int x2, .int x3, .int x4]) (st' := [.int x3, .ref 51]) (by decide +kernel) (fun _ => rfl)).trans ?_
    refine (R_pure0 (ins := .aload_n 0) (len := 1) (loc' := [.ref 51, .int x1, .int x2, .int x3, .int x4]) (st' := [.ref 51, .int x3, .ref 51]) (by decide +kernel) (fun _ => rfl)).trans ?_
    refine (R_gr (i := 14) (ci := 6) (k := 2) (n := 12) (b := 52) (by decide +kernel) (by decide +kernel) (by decide) rfl (SH_ref (by decide +kernel))).trans ?_
    refine (R_pure0 (ins := .iload_n 1) (len := 1) (loc' := [.ref 51, .int x1, .int x2, .int x3, .int x4]) (st' := [.int x1, .ref 52, .int x3, .ref 51]) (by decide +kernel) (fun _ => rfl)).trans ?_
    refine (R_virt (i := 81) (f := 90) (kd := 0) (na := 1) (ml := 2) (ci := 8) (n := 2) (b := 52) (As := [.int x1]) (rest := [.int x3, .ref 51]) (by decide +kernel) (by decide +kernel) (by decide) (by decide +kernel) rfl (by decide +kernel) rfl rfl (by decide +kernel) (Nat.le_of_ble_eq_true rfl)).trans ?_
    rfl
  · exact R_return (by decide +kernel) (by decide +kernel)
theorem s79_104 {L : Nat} {mi : Nat → Nat → Int32} {ml : Nat → Nat → Int64} {d : Nat} {Q : Option Value → xM → Prop} {x1 x2 x3 x4 y z0 : Int32} : X 79 104 [.ref 51, .int x1, .int x2, .int x3, .int x4] [.int y, .int z0, .ref 60] (SH L, mi, ml, MR) (d + 1) Q =
    Xm 91 [.ref 60, .int z0, .int (y + 1)] (SH L, mi, ml, MR) d (fun v μ' => X 79 109 [.ref 51, .int x1, .int x2, .int x3, .int x4] (v.toList ++ []) μ' (d + 1) Q) := by
  refine (R_iconst (n := 1) (v := 1) (by decide +kernel) (by decide +kernel)).trans ?_
  refine (R_pure0 (ins := .iadd) (len := 1) (loc' := [.ref 51, .int x1, .int x2, .int x3, .int x4]) (st' := [.int (y + 1), .int z0, .ref 60]) (by decide +kernel) (fun _ => rfl)).trans ?_
  refine (R_virt (i := 124) (f := 91) (kd := 0) (na := 2) (ml := 3) (ci := 8) (n := 2) (b := 60) (As := [.int z0, .int (y + 1)]) (rest := []) (by decide +kernel) (by decide +kernel) (by decide) (by decide +kernel) rfl (by decide +kernel) rfl rfl (by decide +kernel) (Nat.le_of_ble_eq_true rfl)).trans ?_
  rfl
theorem s79_69v2 {L : Nat} {mi : Nat → Nat → Int32} {ml : Nat → Nat → Int64} {d : Nat} {Q : Option Value → xM → Prop} {x1 x2 x3 x4 y z0 : Int32} : X 79 69 [.ref 51, .int x1, .int x2, .int x3, .int x4] [.int y, .int z0, .ref 51] (SH L, mi, ml, MR) (d + 1) Q =
    Xm 80 [.ref 51, .int z0, .int y, .int x2] (SH L, mi, ml, MR) d (fun v μ' => X 79 73 [.ref 51, .int x1, .int x2, .int x3, .int x4] (v.toList ++ []) μ' (d + 1) Q) := by
  refine (R_pure0 (ins := .iload_n 2) (len := 1) (loc' := [.ref 51, .int x1, .int x2, .int x3, .int x4]) (st' := [.int x2, .int y, .int z0, .ref 51]) (by decide +kernel) (fun _ => rfl)).trans ?_
  refine (R_virt (i := 127) (f := 80) (kd := 0) (na := 3) (ml := 7) (ci := 6) (n := 12) (b := 51) (As := [.int z0, .int y, .int x2]) (rest := []) (by decide +kernel) (by decide +kernel) (by decide) (by decide +kernel) rfl (by decide +kernel) rfl rfl (by decide +kernel) (Nat.le_of_ble_eq_true rfl)).trans ?_
  rfl
theorem s79_109 {L : Nat} {mi : Nat → Nat → Int32} {ml : Nat → Nat → Int64} {d : Nat} {Q : Option Value → xM → Prop} {x1 x2 x3 x4 : Int32} : X 79 109 [.ref 51, .int x1, .int x2, .int x3, .int x4] [] (SH L, mi, ml, MR) (d + 1) Q =
    Xm 79 [.ref 51, .int (x1 + 1), .int x4] (SH L, mi, ml, MR) d (fun v μ' => X 79 118 [.ref 51, .int x1, .int x2, .int x3, .int x4] (v.toList ++ []) μ' (d + 1) Q) := by
  refine (R_pure0 (ins := .aload_n 0) (len := 1) (loc' := [.ref 51, .int x1, .int x2, .int x3, .int x4]) (st' := [.ref 51]) (by decide +kernel) (fun _ => rfl)).trans ?_
  refine (R_pure0 (ins := .iload_n 1) (len := 1) (loc' := [.ref 51, .int x1, .int x2, .int x3, .int x4]) (st' := [.int x1, .ref 51]) (by decide +kernel) (fun _ => rfl)).trans ?_
  refine (R_iconst (n := 1) (v := 1) (by decide +kernel) (by decide +kernel)).trans ?_
  refine (R_pure0 (ins := .iadd) (len := 1) (loc' := [.ref 51, .int x1, .int x2, .int x3, .int x4]) (st' := [.int (x1 + 1), .ref 51]) (by decide +kernel) (fun _ => rfl)).trans ?_
  refine (R_pure0 (ins := .iload 4) (len := 2) (loc' := [.ref 51, .int x1, .int x2, .int x3, .int x4]) (st' := [.int x4, .int (x1 + 1), .ref 51]) (by decide +kernel) (fun _ => rfl)).trans ?_
  refine (R_virt (i := 99) (f := 79) (kd := 0) (na := 2) (ml := 5) (ci := 6) (n := 12) (b := 51) (As := [.int (x1 + 1), .int x4]) (rest := []) (by decide +kernel) (by decide +kernel) (by decide) (by decide +kernel) rfl (by decide +kernel) rfl rfl (by decide +kernel) (Nat.le_of_ble_eq_true rfl)).trans ?_
  rfl
theorem s79_73v2 {L : Nat} {mi : Nat → Nat → Int32} {ml : Nat → Nat → Int64} {d : Nat} {Q : Option Value → xM → Prop} {x1 x2 x3 x4 y : Int32} : X 79 73 [.ref 51, .int x1, .int x2, .int x3, .int x4] [.int y] (SH L, mi, ml, MR) (d + 1) Q =
    if (y = (-9)) then (X 79 48 [.ref 51, .int x1, .int x2, .int (x3 + 1), .int y] [] (SH L, mi, ml, MR) (d + 1) Q) else (Xm 91 [.ref 54, .int x1, .int x3] (SH L, mi, ml, MR) d (fun v μ' => X 79 91 [.ref 51, .int x1, .int x2, .int x3, .int y] (v.toList ++ []) μ' (d + 1) Q)) := by
  refine (R_pure0 (ins := .istore 4) (len := 2) (loc' := [.ref 51, .int x1, .int x2, .int x3, .int y]) (st' := []) (by decide +kernel) (fun _ => rfl)).trans ?_
  refine (R_pure0 (ins := .iload 4) (len := 2) (loc' := [.ref 51, .int x1, .int x2, .int x3, .int y]) (st' := [.int y]) (by decide +kernel) (fun _ => rfl)).trans ?_
  refine (R_bipush (n := (-9)) (v := (-9)) (by decide +kernel) (by decide +kernel)).trans ?_
  refine (R_icmp_eq (off := 57) (t := 136) (by decide +kernel) (by decide +kernel)).trans (ite_congr rfl (fun c0 => ?_) (fun c0 => ?_))
  · refine (R_iinc (k := 3) (n := 1) (x := x3) (v := (x3 + 1)) (loc' := [.ref 51, .int x1, .int x2, .int (x3 + 1), .int y]) (by decide +kernel) rfl rfl rfl).trans ?_
    refine (R_goto (off := (-91)) (t := 48) (by decide +kernel) (by decide +kernel)).trans ?_
    rfl
  · refine (R_pure0 (ins := .aload_n 0) (len := 1) (loc' := [.ref 51, .int x1, .int x2, .int x3, .int y]) (st' := [.ref 51]) (by decide +kernel) (fun _ => rfl)).trans ?_
    refine (R_gr (i := 20) (ci := 6) (k := 3) (n := 12) (b := 54) (by decide +kernel) (by decide +kernel) (by decide) rfl (SH_ref (by decide +kernel))).trans ?_
    refine (R_pure0 (ins := .iload_n 1) (len := 1) (loc' := [.ref 51, .int x1, .int x2, .int x3, .int y]) (st' := [.int x1, .ref 54]) (by decide +kernel) (fun _ => rfl)).trans ?_
    refine (R_pure0 (ins := .iload_n 3) (len := 1) (loc' := [.ref 51, .int x1, .int x2, .int x3, .int y]) (st' := [.int x3, .int x1, .ref 54]) (by decide +kernel) (fun _ => rfl)).trans ?_
    refine (R_virt (i := 124) (f := 91) (kd := 0) (na := 2) (ml := 3) (ci := 8) (n := 2) (b := 54) (As := [.int x1, .int x3]) (rest := []) (by decide +kernel) (by decide +kernel) (by decide) (by decide +kernel) rfl (by decide +kernel) rfl rfl (by decide +kernel) (Nat.le_of_ble_eq_true rfl)).trans ?_
    rfl
theorem s79_118 {L : Nat} {mi : Nat → Nat → Int32} {ml : Nat → Nat → Int64} {d : Nat} {Q : Option Value → xM → Prop} {x1 x2 x3 x4 : Int32} : X 79 118 [.ref 51, .int x1, .int x2, .int x3, .int x4] [] (SH L, mi, ml, MR) (d + 1) Q =
    Xm 90 [.ref 60, .int x3] (SH L, mi, ml, MR) d (fun v μ' => X 79 131 [.ref 51, .int x1, .int x2, .int x3, .int x4] (v.toList ++ [.int x3, .ref 60]) μ' (d + 1) Q) := by
  refine (R_pure0 (ins := .aload_n 0) (len := 1) (loc' := [.ref 51, .int x1, .int x2, .int x3, .int x4]) (st' := [.ref 51]) (by decide +kernel) (fun _ => rfl)).trans ?_
  refine (R_gr (i := 29) (ci := 6) (k := 6) (n := 12) (b := 60) (by decide +kernel) (by decide +kernel) (by decide) rfl (SH_ref (by decide +kernel))).trans ?_
  refine (R_pure0 (ins := .iload_n 3) (len := 1) (loc' := [.ref 51, .int x1, .int x2, .int x3, .int x4]) (st' := [.int x3, .ref 60]) (by decide +kernel) (fun _ => rfl)).trans ?_
  refine (R_pure0 (ins := .aload_n 0) (len := 1) (loc' := [.ref 51, .int x1, .int x2, .int x3, .int x4]) (st' := [.ref 51, .int x3, .ref 60]) (by decide +kernel) (fun _ => rfl)).trans ?_
  refine (R_gr (i := 29) (ci := 6) (k := 6) (n := 12) (b := 60) (by decide +kernel) (by decide +kernel) (by decide) rfl (SH_ref (by decide +kernel))).trans ?_
  refine (R_pure0 (ins := .iload_n 3) (len := 1) (loc' := [.ref 51, .int x1, .int x2, .int x3, .int x4]) (st' := [.int x3, .ref 60, .int x3, .ref 60]) (by decide +kernel) (fun _ => rfl)).trans ?_
  refine (R_virt (i := 81) (f := 90) (kd := 0) (na := 1) (ml := 2) (ci := 8) (n := 2) (b := 60) (As := [.int x3]) (rest := [.int x3, .ref 60]) (by decide +kernel) (by decide +kernel) (by decide) (by decide +kernel) rfl (by decide +kernel) rfl rfl (by decide +kernel) (Nat.le_of_ble_eq_true rfl)).trans ?_
  rfl
theorem s79_131 {L : Nat} {mi : Nat → Nat → Int32} {ml : Nat → Nat → Int64} {d : Nat} {Q : Option Value → xM → Prop} {x1 x2 x3 x4 y z0 : Int32} : X 79 131 [.ref 51, .int x1, .int x2, .int x3, .int x4] [.int y, .int z0, .ref 60] (SH L, mi, ml, MR) (d + 1) Q =
    Xm 91 [.ref 60, .int z0, .int (y - 1)] (SH L, mi, ml, MR) d (fun v μ' => X 79 136 [.ref 51, .int x1, .int x2, .int x3, .int x4] (v.toList ++ []) μ' (d + 1) Q) := by
  refine (R_iconst (n := 1) (v := 1) (by decide +kernel) (by decide +kernel)).trans ?_
  refine (R_pure0 (ins := .isub) (len := 1) (loc' := [.ref 51, .int x1, .int x2, .int x3, .int x4]) (st' := [.int (y - 1), .int z0, .ref 60]) (by decide +kernel) (fun _ => rfl)).trans ?_
  refine (R_virt (i := 124) (f := 91) (kd := 0) (na := 2) (ml := 3) (ci := 8) (n := 2) (b := 60) (As := [.int z0, .int (y - 1)]) (rest := []) (by decide +kernel) (by decide +kernel) (by decide) (by decide +kernel) rfl (by decide +kernel) rfl rfl (by decide +kernel) (Nat.le_of_ble_eq_true rfl)).trans ?_
  rfl
theorem s79_136 {L : Nat} {mi : Nat → Nat → Int32} {ml : Nat → Nat → Int64} {d : Nat} {Q : Option Value → xM → Prop} {x1 x2 x3 x4 : Int32} : X 79 136 [.ref 51, .int x1, .int x2, .int x3, .int x4] [] (SH L, mi, ml, MR) d Q =
    X 79 48 [.ref 51, .int x1, .int x2, .int (x3 + 1), .int x4] [] (SH L, mi, ml, MR) d Q := by
  refine (R_iinc (k := 3) (n := 1) (x := x3) (v := (x3 + 1)) (loc' := [.ref 51, .int x1, .int x2, .int (x3 + 1), .int x4]) (by decide +kernel) rfl rfl rfl).trans ?_
  refine (R_goto (off := (-91)) (t := 48) (by decide +kernel) (by decide +kernel)).trans ?_
  rfl
theorem s80 {L : Nat} {mi : Nat → Nat → Int32} {ml : Nat → Nat → Int64} {d : Nat} {Q : Option Value → xM → Prop} {x1 x2 x3 : Int32} : Xm 80 [.ref 51, .int x1, .int x2, .int x3] (SH L, mi, ml, MR) (d + 1) Q =
    Xm 15 [.ref 38, .int x1] (SH L, mi, ml, MR) d (fun v μ' => X 80 8 [.ref 51, .int x1, .int x2, .int x3, xmk, xmk, xmk] (v.toList ++ []) μ' (d + 1) Q) := by
  rw [Xm_ent (n := 7) (loc := [.ref 51, .int x1, .int x2, .int x3, xmk, xmk, xmk]) (by decide +kernel) rfl]
  refine (R_pure0 (ins := .aload_n 0) (len := 1) (loc' := [.ref 51, .int x1, .int x2, .int x3, xmk, xmk, xmk]) (st' := [.ref 51]) (by decide +kernel) (fun _ => rfl)).trans ?_
  refine (R_gr (i := 48) (ci := 6) (k := 0) (n := 12) (b := 38) (by decide +kernel) (by decide +kernel) (by decide) rfl (SH_ref (by decide +kernel))).trans ?_
  refine (R_pure0 (ins := .iload_n 1) (len := 1) (loc' := [.ref 51, .int x1, .int x2, .int x3, xmk, xmk, xmk]) (st' := [.int x1, .ref 38]) (by decide +kernel) (fun _ => rfl)).trans ?_
  refine (R_virt (i := 105) (f := 15) (kd := 0) (na := 1) (ml := 2) (ci := 2) (n := 5) (b := 38) (As := [.int x1]) (rest := []) (by decide +kernel) (by decide +kernel) (by decide) (by decide +kernel) rfl (by decide +kernel) rfl rfl (by decide +kernel) (Nat.le_of_ble_eq_true rfl)).trans ?_
  rfl
theorem s80_8 {L : Nat} {mi : Nat → Nat → Int32} {ml : Nat → Nat → Int64} {d : Nat} {Q : Option Value → xM → Prop} {x1 x2 x3 : Int32} {ry : Nat} (hS_ry : (SH L)[ry]? = some (4, 7)) : X 80 8 [.ref 51, .int x1, .int x2, .int x3, xmk, xmk, xmk] [.ref ry] (SH L, mi, ml, MR) (d + 1) Q =
    Xm 90 [.ref 60, .int x1] (SH L, mi, ml, MR) d (fun v μ' => X 80 18 [.ref 51, .int x1, .int x2, .int x3, .ref ry, xmk, xmk] (v.toList ++ []) μ' (d + 1) Q) := by
  refine (R_pure0 (ins := .astore 4) (len := 2) (loc' := [.ref 51, .int x1, .int x2, .int x3, .ref ry, xmk, xmk]) (st' := []) (by decide +kernel) (fun _ => rfl)).trans ?_
  refine (R_pure0 (ins := .aload_n 0) (len := 1) (loc' := [.ref 51, .int x1, .int x2, .int x3, .ref ry, xmk, xmk]) (st' := [.ref 51]) (by decide +kernel) (fun _ => rfl)).trans ?_
  refine (R_gr (i := 29) (ci := 6) (k := 6) (n := 12) (b := 60) (by decide +kernel) (by decide +kernel) (by decide) rfl (SH_ref (by decide +kernel))).trans ?_
  refine (R_pure0 (ins := .iload_n 1) (len := 1) (loc' := [.ref 51, .int x1, .int x2, .int x3, .ref ry, xmk, xmk]) (st' := [.int x1, .ref 60]) (by decide +kernel) (fun _ => rfl)).trans ?_
  refine (R_virt (i := 81) (f := 90) (kd := 0) (na := 1) (ml := 2) (ci := 8) (n := 2) (b := 60) (As := [.int x1]) (rest := []) (by decide +kernel) (by decide +kernel) (by decide) (by decide +kernel) rfl (by decide +kernel) rfl rfl (by decide +kernel) (Nat.le_of_ble_eq_true rfl)).trans ?_
  rfl
theorem s80_8n {L : Nat} {mi : Nat → Nat → Int32} {ml : Nat → Nat → Int64} {d : Nat} {Q : Option Value → xM → Prop} {x1 x2 x3 : Int32} : X 80 8 [.ref 51, .int x1, .int x2, .int x3, xmk, xmk, xmk] [.null] (SH L, mi, ml, MR) (d + 1) Q =
    Xm 90 [.ref 60, .int x1] (SH L, mi, ml, MR) d (fun v μ' => X 80 18 [.ref 51, .int x1, .int x2, .int x3, .null, xmk, xmk] (v.toList ++ []) μ' (d + 1) Q) := by
  refine (R_pure0 (ins := .astore 4) (len := 2) (loc' := [.ref 51, .int x1, .int x2, .int x3, .null, xmk, xmk]) (st' := []) (by decide +kernel) (fun _ => rfl)).trans ?_
  refine (R_pure0 (ins := .aload_n 0) (len := 1) (loc' := [.ref 51, .int x1, .int x2, .int x3, .null, xmk, xmk]) (st' := [.ref 51]) (by decide +kernel) (fun _ => rfl)).trans ?_
  refine (R_gr (i := 29) (ci := 6) (k := 6) (n := 12) (b := 60) (by decide +kernel) (by decide +kernel) (by decide) rfl (SH_ref (by decide +kernel))).trans ?_
  refine (R_pure0 (ins := .iload_n 1) (len := 1) (loc' := [.ref 51, .int x1, .int x2, .int x3, .null, xmk, xmk]) (st' := [.int x1, .ref 60]) (by decide +kernel) (fun _ => rfl)).trans ?_
  refine (R_virt (i := 81) (f := 90) (kd := 0) (na := 1) (ml := 2) (ci := 8) (n := 2) (b := 60) (As := [.int x1]) (rest := []) (by decide +kernel) (by decide +kernel) (by decide) (by decide +kernel) rfl (by decide +kernel) rfl rfl (by decide +kernel) (Nat.le_of_ble_eq_true rfl)).trans ?_
  rfl
theorem s80_18 {L : Nat} {mi : Nat → Nat → Int32} {ml : Nat → Nat → Int64} {d : Nat} {Q : Option Value → xM → Prop} {x1 x2 x3 y : Int32} {r4 : Nat} (hS_r4 : (SH L)[r4]? = some (4, 7)) : X 80 18 [.ref 51, .int x1, .int x2, .int x3, .ref r4, xmk, xmk] [.int y] (SH L, mi, ml, MR) (d + 1) Q =
    if (y < 5) then (Xm 90 [.ref 60, .int x1] (SH L, mi, ml, MR) d (fun v μ' => X 80 37 [.ref 51, .int x1, .int x2, .int x3, .ref r4, xmk, xmk] (v.toList ++ [.int (x1 * 5), .ref 58]) μ' (d + 1) Q)) else (Q (some (.int (-9))) (SH L, mi, ml, MR)) := by
  refine (R_iconst (n := 5) (v := 5) (by decide +kernel) (by decide +kernel)).trans ?_
  refine (R_icmp_ge (off := 25) (t := 44) (by decide +kernel) (by decide +kernel)).trans (ite_congr rfl (fun c0 => ?_) (fun c0 => ?_))
  · refine (R_pure0 (ins := .aload_n 0) (len := 1) (loc' := [.ref 51, .int x1, .int x2, .int x3, .ref r4, xmk, xmk]) (st' := [.ref 51]) (by decide +kernel) (fun _ => rfl)).trans ?_
    refine (R_gr (i := 26) (ci := 6) (k := 5) (n := 12) (b := 58) (by decide +kernel) (by decide +kernel) (by decide) rfl (SH_ref (by decide +kernel))).trans ?_
    refine (R_pure0 (ins := .iload_n 1) (len := 1) (loc' := [.ref 51, .int x1, .int x2, .int x3, .ref r4, xmk, xmk]) (st' := [.int x1, .ref 58]) (by decide +kernel) (fun _ => rfl)).trans ?_
    refine (R_iconst (n := 5) (v := 5) (by decide +kernel) (by decide +kernel)).trans ?_
    refine (R_pure0 (ins := .imul) (len := 1) (loc' := [.ref 51, .int x1, .int x2, .int x3, .ref r4, xmk, xmk]) (st' := [.int (x1 * 5), .ref 58]) (by decide +kernel) (fun _ => rfl)).trans ?_
    refine (R_pure0 (ins := .aload_n 0) (len := 1) (loc' := [.ref 51, .int x1, .int x2, .int x3, .ref r4, xmk, xmk]) (st' := [.ref 51, .int (x1 * 5), .ref 58]) (by decide +kernel) (fun _ => rfl)).trans ?_
    refine (R_gr (i := 29) (ci := 6) (k := 6) (n := 12) (b := 60) (by decide +kernel) (by decide +kernel) (by decide) rfl (SH_ref (by decide +kernel))).trans ?_
    refine (R_pure0 (ins := .iload_n 1) (len := 1) (loc' := [.ref 51, .int x1, .int x2, .int x3, .ref r4, xmk, xmk]) (st' := [.int x1, .ref 60, .int (x1 * 5), .ref 58]) (by decide +kernel) (fun _ => rfl)).trans ?_
    refine (R_virt (i := 81) (f := 90) (kd := 0) (na := 1) (ml := 2) (ci := 8) (n := 2) (b := 60) (As := [.int x1]) (rest := [.int (x1 * 5), .ref 58]) (by decide +kernel) (by decide +kernel) (by decide) (by decide +kernel) rfl (by decide +kernel) rfl rfl (by decide +kernel) (Nat.le_of_ble_eq_true rfl)).trans ?_
    rfl
  · refine (R_bipush (n := (-9)) (v := (-9)) (by decide +kernel) (by decide +kernel)).trans ?_
    refine (R_pure0 (ins := .istore 5) (len := 2) (loc' := [.ref 51, .int x1, .int x2, .int x3, .ref r4, .int (-9), xmk]) (st' := []) (by decide +kernel) (fun _ => rfl)).trans ?_
    refine (R_pure0 (ins := .aload 4) (len := 2) (loc' := [.ref 51, .int x1, .int x2, .int x3, .ref r4, .int (-9), xmk]) (st' := [.ref r4]) (by decide +kernel) (fun _ => rfl)).trans ?_
    refine (R_ifnull_r (off := 33) (by decide +kernel)).trans ?_
    refine (R_pure0 (ins := .iload 5) (len := 2) (loc' := [.ref 51, .int x1, .int x2, .int x3, .ref r4, .int (-9), xmk]) (st' := [.int (-9)]) (by decide +kernel) (fun _ => rfl)).trans ?_
    refine (R_bipush (n := (-9)) (v := (-9)) (by decide +kernel) (by decide +kernel)).trans ?_
    refine (R_icmp_eq (off := 26) (t := 83) (by decide +kernel) (by decide +kernel)).trans ((if_pos (by decide)).trans ?_)
    refine (R_bipush (n := (-9)) (v := (-9)) (by decide +kernel) (by decide +kernel)).trans ?_
    exact R_ireturn (by decide +kernel) (by decide +kernel)
theorem s80_18v2 {L : Nat} {mi : Nat → Nat → Int32} {ml : Nat → Nat → Int64} {d : Nat} {Q : Option Value → xM → Prop} {x1 x2 x3 y : Int32} : X 80 18 [.ref 51, .int x1, .int x2, .int x3, .null, xmk, xmk] [.int y] (SH L, mi, ml, MR) (d + 1) Q =
    if (y < 5) then (Xm 90 [.ref 60, .int x1] (SH L, mi, ml, MR) d (fun v μ' => X 80 37 [.ref 51, .int x1, .int x2, .int x3, .null, xmk, xmk] (v.toList ++ [.int (x1 * 5), .ref 58]) μ' (d + 1) Q)) else (Q (some (.int (-9))) (SH L, mi, ml, MR)) := by
  refine (R_iconst (n := 5) (v := 5) (by decide +kernel) (by decide +kernel)).trans ?_
  refine (R_icmp_ge (off := 25) (t := 44) (by decide +kernel) (by decide +kernel)).trans (ite_congr rfl (fun c0 => ?_) (fun c0 => ?_))
  · refine (R_pure0 (ins := .aload_n 0) (len := 1) (loc' := [.ref 51, .int x1, .int x2, .int x3, .null, xmk, xmk]) (st' := [.ref 51]) (by decide +kernel) (fun _ => rfl)).trans ?_
    refine (R_gr (i := 26) (ci := 6) (k := 5) (n := 12) (b := 58) (by decide +kernel) (by decide +kernel) (by decide) rfl (SH_ref (by decide +kernel))).trans ?_
    refine (R_pure0 (ins := .iload_n 1) (len := 1) (loc' := [.ref 51, .int x1, .int x2, .int x3, .null, xmk, xmk]) (st' := [.int x1, .ref 58]) (by decide +kernel) (fun _ => rfl)).trans ?_
    refine (R_iconst (n := 5) (v := 5) (by decide +kernel) (by decide +kernel)).trans ?_
    refine (R_pure0 (ins := .imul) (len := 1) (loc' := [.ref 51, .int x1, .int x2, .int x3, .null, xmk, xmk]) (st' := [.int (x1 * 5), .ref 58]) (by decide +kernel) (fun _ => rfl)).trans ?_
    refine (R_pure0 (ins := .aload_n 0) (len := 1) (loc' := [.ref 51, .int x1, .int x2, .int x3, .null, xmk, xmk]) (st' := [.ref 51, .int (x1 * 5), .ref 58]) (by decide +kernel) (fun _ => rfl)).trans ?_
    refine (R_gr (i := 29) (ci := 6) (k := 6) (n := 12) (b := 60) (by decide +kernel) (by decide +kernel) (by decide) rfl (SH_ref (by decide +kernel))).trans ?_
    refine (R_pure0 (ins := .iload_n 1) (len := 1) (loc' := [.ref 51, .int x1, .int x2, .int x3, .null, xmk, xmk]) (st' := [.int x1, .ref 60, .int (x1 * 5), .ref 58]) (by decide +kernel) (fun _ => rfl)).trans ?_
    refine (R_virt (i := 81) (f := 90) (kd := 0) (na := 1) (ml := 2) (ci := 8) (n := 2) (b := 60) (As := [.int x1]) (rest := [.int (x1 * 5), .ref 58]) (by decide +kernel) (by decide +kernel) (by decide) (by decide +kernel) rfl (by decide +kernel) rfl rfl (by decide +kernel) (Nat.le_of_ble_eq_true rfl)).trans ?_
    rfl
  · refine (R_bipush (n := (-9)) (v := (-9)) (by decide +kernel) (by decide +kernel)).trans ?_
    refine (R_pure0 (ins := .istore 5) (len := 2) (loc' := [.ref 51, .int x1, .int x2, .int x3, .null, .int (-9), xmk]) (st' := []) (by decide +kernel) (fun _ => rfl)).trans ?_
    refine (R_pure0 (ins := .aload 4) (len := 2) (loc' := [.ref 51, .int x1, .int x2, .int x3, .null, .int (-9), xmk]) (st' := [.null]) (by decide +kernel) (fun _ => rfl)).trans ?_
    refine (R_ifnull_n (off := 33) (t := 83) (by decide +kernel) (by decide +kernel)).trans ?_
    refine (R_bipush (n := (-9)) (v := (-9)) (by decide +kernel) (by decide +kernel)).trans ?_
    exact R_ireturn (by decide +kernel) (by decide +kernel)
theorem s80_37 {L : Nat} {mi : Nat → Nat → Int32} {ml : Nat → Nat → Int64} {d : Nat} {Q : Option Value → xM → Prop} {x1 x2 x3 y z0 : Int32} {r4 : Nat} (hS_r4 : (SH L)[r4]? = some (4, 7)) : X 80 37 [.ref 51, .int x1, .int x2, .int x3, .ref r4, xmk, xmk] [.int y, .int z0, .ref 58] (SH L, mi, ml, MR) (d + 1) Q =
    Xm 90 [.ref 58, .int (z0 + y)] (SH L, mi, ml, MR) d (fun v μ' => X 80 41 [.ref 51, .int x1, .int x2, .int x3, .ref r4, xmk, xmk] (v.toList ++ []) μ' (d + 1) Q) := by
  refine (R_pure0 (ins := .iadd) (len := 1) (loc' := [.ref 51, .int x1, .int x2, .int x3, .ref r4, xmk, xmk]) (st' := [.int (z0 + y), .ref 58]) (by decide +kernel) (fun _ => rfl)).trans ?_
  refine (R_virt (i := 81) (f := 90) (kd := 0) (na := 1) (ml := 2) (ci := 8) (n := 2) (b := 58) (As := [.int (z0 + y)]) (rest := []) (by decide +kernel) (by decide +kernel) (by decide) (by decide +kernel) rfl (by decide +kernel) rfl rfl (by decide +kernel) (Nat.le_of_ble_eq_true rfl)).trans ?_
  rfl
theorem s80_37v2 {L : Nat} {mi : Nat → Nat → Int32} {ml : Nat → Nat → Int64} {d : Nat} {Q : Option Value → xM → Prop} {x1 x2 x3 y z0 : Int32} : X 80 37 [.ref 51, .int x1, .int x2, .int x3, .null, xmk, xmk] [.int y, .int z0, .ref 58] (SH L, mi, ml, MR) (d + 1) Q =
    Xm 90 [.ref 58, .int (z0 + y)] (SH L, mi, ml, MR) d (fun v μ' => X 80 41 [.ref 51, .int x1, .int x2, .int x3, .null, xmk, xmk] (v.toList ++ []) μ' (d + 1) Q) := by
  refine (R_pure0 (ins := .iadd) (len := 1) (loc' := [.ref 51, .int x1, .int x2, .int x3, .null, xmk, xmk]) (st' := [.int (z0 + y), .ref 58]) (by decide +kernel) (fun _ => rfl)).trans ?_
  refine (R_virt (i := 81) (f := 90) (kd := 0) (na := 1) (ml := 2) (ci := 8) (n := 2) (b := 58) (As := [.int (z0 + y)]) (rest := []) (by decide +kernel) (by decide +kernel) (by decide) (by decide +kernel) rfl (by decide +kernel) rfl rfl (by decide +kernel) (Nat.le_of_ble_eq_true rfl)).trans ?_
  rfl
theorem s80_41 {L : Nat} {mi : Nat → Nat → Int32} {ml : Nat → Nat → Int64} {d : Nat} {Q : Option Value → xM → Prop} {x1 x2 x3 y : Int32} {r4 : Nat} (hS_r4 : (SH L)[r4]? = some (4, 7)) : X 80 41 [.ref 51, .int x1, .int x2, .int x3, .ref r4, xmk, xmk] [.int y] (SH L, mi, ml, MR) (d + 1) Q =
    if (y = (-9)) then (Q (some (.int (-9))) (SH L, mi, ml, MR)) else (Xm 90 [.ref 60, .int x1] (SH L, mi, ml, MR) d (fun v μ' => X 80 75 [.ref 51, .int x1, .int x2, .int x3, .ref r4, .int y, xmk] (v.toList ++ [.int (mi r4 5), .ref r4]) μ' (d + 1) Q)) := by
  refine (R_goto (off := 5) (t := 46) (by decide +kernel) (by decide +kernel)).trans ?_
  refine (R_pure0 (ins := .istore 5) (len := 2) (loc' := [.ref 51, .int x1, .int x2, .int x3, .ref r4, .int y, xmk]) (st' := []) (by decide +kernel) (fun _ => rfl)).trans ?_
  refine (R_pure0 (ins := .aload 4) (len := 2) (loc' := [.ref 51, .int x1, .int x2, .int x3, .ref r4, .int y, xmk]) (st' := [.ref r4]) (by decide +kernel) (fun _ => rfl)).trans ?_
  refine (R_ifnull_r (off := 33) (by decide +kernel)).trans ?_
  refine (R_pure0 (ins := .iload 5) (len := 2) (loc' := [.ref 51, .int x1, .int x2, .int x3, .ref r4, .int y, xmk]) (st' := [.int y]) (by decide +kernel) (fun _ => rfl)).trans ?_
  refine (R_bipush (n := (-9)) (v := (-9)) (by decide +kernel) (by decide +kernel)).trans ?_
  refine (R_icmp_eq (off := 26) (t := 83) (by decide +kernel) (by decide +kernel)).trans (ite_congr rfl (fun c0 => ?_) (fun c0 => ?_))
  · refine (R_bipush (n := (-9)) (v := (-9)) (by decide +kernel) (by decide +kernel)).trans ?_
    exact R_ireturn (by decide +kernel) (by decide +kernel)
  · refine (R_pure0 (ins := .aload 4) (len := 2) (loc' := [.ref 51, .int x1, .int x2, .int x3, .ref r4, .int y, xmk]) (st' := [.ref r4]) (by decide +kernel) (fun _ => rfl)).trans ?_
    refine (R_pure0 (ins := .aload 4) (len := 2) (loc' := [.ref 51, .int x1, .int x2, .int x3, .ref r4, .int y, xmk]) (st' := [.ref r4, .ref r4]) (by decide +kernel) (fun _ => rfl)).trans ?_
    refine (R_gi (i := 109) (ci := 4) (k := 5) (n := 7) (by decide +kernel) (by decide +kernel) (by decide) hS_r4).trans ?_
    refine (R_pure0 (ins := .aload_n 0) (len := 1) (loc' := [.ref 51, .int x1, .int x2, .int x3, .ref r4, .int y, xmk]) (st' := [.ref 51, .int (mi r4 5), .ref r4]) (by decide +kernel) (fun _ => rfl)).trans ?_
    refine (R_gr (i := 29) (ci := 6) (k := 6) (n := 12) (b := 60) (by decide +kernel) (by decide +kernel) (by decide) rfl (SH_ref (by decide +kernel))).trans ?_
    refine (R_pure0 (ins := .iload_n 1) (len := 1) (loc' := [.ref 51, .int x1, .int x2, .int x3, .ref r4, .int y, xmk]) (st' := [.int x1, .ref 60, .int (mi r4 5), .ref r4]) (by decide +kernel) (fun _ => rfl)).trans ?_
    refine (R_virt (i := 81) (f := 90) (kd := 0) (na := 1) (ml := 2) (ci := 8) (n := 2) (b := 60) (As := [.int x1]) (rest := [.int (mi r4 5), .ref r4]) (by decide +kernel) (by decide +kernel) (by decide) (by decide +kernel) rfl (by decide +kernel) rfl rfl (by decide +kernel) (Nat.le_of_ble_eq_true rfl)).trans ?_
    rfl
theorem s80_41v2 {L : Nat} {mi : Nat → Nat → Int32} {ml : Nat → Nat → Int64} {d : Nat} {Q : Option Value → xM → Prop} {x1 x2 x3 y : Int32} : X 80 41 [.ref 51, .int x1, .int x2, .int x3, .null, xmk, xmk] [.int y] (SH L, mi, ml, MR) d Q =
    Q (some (.int (-9))) (SH L, mi, ml, MR) := by
  refine (R_goto (off := 5) (t := 46) (by decide +kernel) (by decide +kernel)).trans ?_
  refine (R_pure0 (ins := .istore 5) (len := 2) (loc' := [.ref 51, .int x1, .int x2, .int x3, .null, .int y, xmk]) (st' := []) (by decide +kernel) (fun _ => rfl)).trans ?_
  refine (R_pure0 (ins := .aload 4) (len := 2) (loc' := [.ref 51, .int x1, .int x2, .int x3, .null, .int y, xmk]) (st' := [.null]) (by decide +kernel) (fun _ => rfl)).trans ?_
  refine (R_ifnull_n (off := 33) (t := 83) (by decide +kernel) (by decide +kernel)).trans ?_
  refine (R_bipush (n := (-9)) (v := (-9)) (by decide +kernel) (by decide +kernel)).trans ?_
  exact R_ireturn (by decide +kernel) (by decide +kernel)
theorem s80_75 {L : Nat} {mi : Nat → Nat → Int32} {ml : Nat → Nat → Int64} {d : Nat} {Q : Option Value → xM → Prop} {x1 x2 x3 x5 y z0 : Int32} {r4 : Nat} (hS_r4 : (SH L)[r4]? = some (4, 7)) : X 80 75 [.ref 51, .int x1, .int x2, .int x3, .ref r4, .int x5, xmk] [.int y, .int z0, .ref r4] (SH L, mi, ml, MR) (d + 1) Q =
    Xm 53 [.ref r4, .int (z0 + y)] (SH L, mi, ml, MR) d (fun v μ' => X 80 79 [.ref 51, .int x1, .int x2, .int x3, .ref r4, .int x5, xmk] (v.toList ++ []) μ' (d + 1) Q) := by
  refine (R_pure0 (ins := .iadd) (len := 1) (loc' := [.ref 51, .int x1, .int x2, .int x3, .ref r4, .int x5, xmk]) (st' := [.int (z0 + y), .ref r4]) (by decide +kernel) (fun _ => rfl)).trans ?_
  refine (R_virt (i := 131) (f := 53) (kd := 0) (na := 1) (ml := 2) (ci := 4) (n := 7) (b := r4) (As := [.int (z0 + y)]) (rest := []) (by decide +kernel) (by decide +kernel) (by decide) (by decide +kernel) rfl (by decide +kernel) hS_r4 rfl (by decide +kernel) (Nat.le_of_ble_eq_true rfl)).trans ?_
  rfl
theorem s80_79 {L : Nat} {mi : Nat → Nat → Int32} {ml : Nat → Nat → Int64} {d : Nat} {Q : Option Value → xM → Prop} {x1 x2 x3 x5 y : Int32} {r4 : Nat} (hS_r4 : (SH L)[r4]? = some (4, 7)) : X 80 79 [.ref 51, .int x1, .int x2, .int x3, .ref r4, .int x5, xmk] [.int y] (SH L, mi, ml, MR) (d + 1) Q =
    if (y = x2) then (Xm 18 [.ref 38] (SH L, mi, ml, MR) d (fun v μ' => X 80 103 [.ref 51, .int x1, .int x2, .int x3, .ref r4, .int x5, .int (if x3 < x5 then x5 else x3)] (v.toList ++ [.ref r4]) μ' (d + 1) Q)) else (Q (some (.int (-9))) (SH L, mi, ml, MR)) := by
  refine (R_pure0 (ins := .iload_n 2) (len := 1) (loc' := [.ref 51, .int x1, .int x2, .int x3, .ref r4, .int x5, xmk]) (st' := [.int x2, .int y]) (by decide +kernel) (fun _ => rfl)).trans ?_
  refine (R_icmp_eq (off := 6) (t := 86) (by decide +kernel) (by decide +kernel)).trans (ite_congr rfl (fun c0 => ?_) (fun c0 => ?_))
  · refine (R_pure0 (ins := .iload_n 3) (len := 1) (loc' := [.ref 51, .int x1, .int x2, .int x3, .ref r4, .int x5, xmk]) (st' := [.int x3]) (by decide +kernel) (fun _ => rfl)).trans ?_
    refine (R_pure0 (ins := .iload 5) (len := 2) (loc' := [.ref 51, .int x1, .int x2, .int x3, .ref r4, .int x5, xmk]) (st' := [.int x5, .int x3]) (by decide +kernel) (fun _ => rfl)).trans ?_
    refine (R_max (i := 132) (f := 0) (x := x3) (y := x5) (by decide +kernel) (by decide +kernel) rfl).trans ?_
    refine (R_pure0 (ins := .istore 6) (len := 2) (loc' := [.ref 51, .int x1, .int x2, .int x3, .ref r4, .int x5, .int (if x3 < x5 then x5 else x3)]) (st' := []) (by decide +kernel) (fun _ => rfl)).trans ?_
    refine (R_pure0 (ins := .aload 4) (len := 2) (loc' := [.ref 51, .int x1, .int x2, .int x3, .ref r4, .int x5, .int (if x3 < x5 then x5 else x3)]) (st' := [.ref r4]) (by decide +kernel) (fun _ => rfl)).trans ?_
    refine (R_pure0 (ins := .aload_n 0) (len := 1) (loc' := [.ref 51, .int x1, .int x2, .int x3, .ref r4, .int x5, .int (if x3 < x5 then x5 else x3)]) (st' := [.ref 51, .ref r4]) (by decide +kernel) (fun _ => rfl)).trans ?_
    refine (R_gr (i := 48) (ci := 6) (k := 0) (n := 12) (b := 38) (by decide +kernel) (by decide +kernel) (by decide) rfl (SH_ref (by decide +kernel))).trans ?_
    refine (R_virt (i := 117) (f := 18) (kd := 0) (na := 0) (ml := 1) (ci := 2) (n := 5) (b := 38) (As := []) (rest := [.ref r4]) (by decide +kernel) (by decide +kernel) (by decide) (by decide +kernel) rfl (by decide +kernel) rfl rfl (by decide +kernel) (Nat.le_of_ble_eq_true rfl)).trans ?_
    rfl
  · refine (R_bipush (n := (-9)) (v := (-9)) (by decide +kernel) (by decide +kernel)).trans ?_
    exact R_ireturn (by decide +kernel) (by decide +kernel)
theorem s80_103 {L : Nat} {mi : Nat → Nat → Int32} {ml : Nat → Nat → Int64} {d : Nat} {Q : Option Value → xM → Prop} {x1 x2 x3 x5 x6 y : Int32} {r4 : Nat} (hS_r4 : (SH L)[r4]? = some (4, 7)) : X 80 103 [.ref 51, .int x1, .int x2, .int x3, .ref r4, .int x5, .int x6] [.int y, .ref r4] (SH L, mi, ml, MR) (d + 1) Q =
    Xm 55 [.ref r4, .int (y + x6)] (SH L, mi, ml, MR) d (fun v μ' => X 80 109 [.ref 51, .int x1, .int x2, .int x3, .ref r4, .int x5, .int x6] (v.toList ++ []) μ' (d + 1) Q) := by
  refine (R_pure0 (ins := .iload 6) (len := 2) (loc' := [.ref 51, .int x1, .int x2, .int x3, .ref r4, .int x5, .int x6]) (st' := [.int x6, .int y, .ref r4]) (by decide +kernel) (fun _ => rfl)).trans ?_
  refine (R_pure0 (ins := .iadd) (len := 1) (loc' := [.ref 51, .int x1, .int x2, .int x3, .ref r4, .int x5, .int x6]) (st' := [.int (y + x6), .ref r4]) (by decide +kernel) (fun _ => rfl)).trans ?_
  refine (R_virt (i := 138) (f := 55) (kd := 0) (na := 1) (ml := 2) (ci := 4) (n := 7) (b := r4) (As := [.int (y + x6)]) (rest := []) (by decide +kernel) (by decide +kernel) (by decide) (by decide +kernel) rfl (by decide +kernel) hS_r4 rfl (by decide +kernel) (Nat.le_of_ble_eq_true rfl)).trans ?_
  rfl
theorem s80_109 {L : Nat} {mi : Nat → Nat → Int32} {ml : Nat → Nat → Int64} {d : Nat} {Q : Option Value → xM → Prop} {x1 x2 x3 x5 x6 y : Int32} {r4 : Nat} (hS_r4 : (SH L)[r4]? = some (4, 7)) : X 80 109 [.ref 51, .int x1, .int x2, .int x3, .ref r4, .int x5, .int x6] [.int y] (SH L, mi, ml, MR) d Q =
    if (y = 0) then (if ((60 : Int32) < (x6 + 1)) then (Q (some (.int (-9))) (SH L, mi, ml, MR)) else (Q (some (.int (x6 + 1))) (SH L, mi, ml, MR))) else (if ((60 : Int32) < x6) then (Q (some (.int (-9))) (SH L, mi, ml, MR)) else (Q (some (.int x6)) (SH L, mi, ml, MR))) := by
  refine (R_if_ne (off := 6) (t := 115) (by decide +kernel) (by decide +kernel)).trans (ite_congr rfl (fun c0 => ?_) (fun c0 => ?_))
  · refine (R_iinc (k := 6) (n := 1) (x := x6) (v := (x6 + 1)) (loc' := [.ref 51, .int x1, .int x2, .int x3, .ref r4, .int x5, .int (x6 + 1)]) (by decide +kernel) rfl rfl rfl).trans ?_
    refine (R_pure0 (ins := .iload 6) (len := 2) (loc' := [.ref 51, .int x1, .int x2, .int x3, .ref r4, .int x5, .int (x6 + 1)]) (st' := [.int (x6 + 1)]) (by decide +kernel) (fun _ => rfl)).trans ?_
    refine (R_bipush (n := 60) (v := 60) (by decide +kernel) (by decide +kernel)).trans ?_
    refine (R_icmp_le (off := 8) (t := 127) (by decide +kernel) (by decide +kernel)).trans (ite_congr rfl (fun c1 => ?_) (fun c1 => ?_))
    · refine (R_bipush (n := (-9)) (v := (-9)) (by decide +kernel) (by decide +kernel)).trans ?_
      refine (R_goto (off := 5) (t := 129) (by decide +kernel) (by decide +kernel)).trans ?_
      exact R_ireturn (by decide +kernel) (by decide +kernel)
    · refine (R_pure0 (ins := .iload 6) (len := 2) (loc' := [.ref 51, .int x1, .int x2, .int x3, .ref r4, .int x5, .int (x6 + 1)]) (st' := [.int (x6 + 1)]) (by decide +kernel) (fun _ => rfl)).trans ?_
      exact R_ireturn (by decide +kernel) (by decide +kernel)
  · refine (R_pure0 (ins := .iload 6) (len := 2) (loc' := [.ref 51, .int x1, .int x2, .int x3, .ref r4, .int x5, .int x6]) (st' := [.int x6]) (by decide +kernel) (fun _ => rfl)).trans ?_
    refine (R_bipush (n := 60) (v := 60) (by decide +kernel) (by decide +kernel)).trans ?_
    refine (R_icmp_le (off := 8) (t := 127) (by decide +kernel) (by decide +kernel)).trans (ite_congr rfl (fun c2 => ?_) (fun c2 => ?_))
    · refine (R_bipush (n := (-9)) (v := (-9)) (by decide +kernel) (by decide +kernel)).trans ?_
      refine (R_goto (off := 5) (t := 129) (by decide +kernel) (by decide +kernel)).trans ?_
      exact R_ireturn (by decide +kernel) (by decide +kernel)
    · refine (R_pure0 (ins := .iload 6) (len := 2) (loc' := [.ref 51, .int x1, .int x2, .int x3, .ref r4, .int x5, .int x6]) (st' := [.int x6]) (by decide +kernel) (fun _ => rfl)).trans ?_
      exact R_ireturn (by decide +kernel) (by decide +kernel)
