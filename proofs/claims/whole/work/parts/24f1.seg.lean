theorem s193 {L : Nat} {mi : Nat → Nat → Int32} {ml : Nat → Nat → Int64} {d : Nat} {Q : Option Value → xM → Prop} {x1 : Int32} : Xm 193 [.ref 68, .int x1] (SH L, mi, ml, MR) (d + 1) Q =
    Xm 189 [.ref 68] (SH L, mi, ml, MR) d (fun v μ' => X 193 4 [.ref 68, .int x1] (v.toList ++ []) μ' (d + 1) Q) := by
  rw [Xm_ent (n := 2) (loc := [.ref 68, .int x1]) (by decide +kernel) rfl]
  refine (R_pure0 (ins := .aload_n 0) (len := 1) (loc' := [.ref 68, .int x1]) (st' := [.ref 68]) (by decide +kernel) (fun _ => rfl)).trans ?_
  refine (R_virt (i := 188) (f := 189) (kd := 0) (na := 0) (ml := 1) (ci := 10) (n := 33) (b := 68) (As := []) (rest := []) (by decide +kernel) (by decide +kernel) (by decide) (by decide +kernel) rfl (by decide +kernel) rfl rfl (by decide +kernel) (Nat.le_of_ble_eq_true rfl)).trans ?_
  rfl
theorem s193_4 {L : Nat} {mi : Nat → Nat → Int32} {ml : Nat → Nat → Int64} {d : Nat} {Q : Option Value → xM → Prop} {x1 : Int32} (h1 : xin (6 + x1) 15 = true) : X 193 4 [.ref 68, .int x1] [] (SH L, mi, ml, MR) (d + 1) Q =
    Xm 180 [.ref 68, .int x1, .int (mi 77 (6 + x1).toNatClampNeg)] (SH L, mi, ml, MR) d (fun v μ' => X 193 24 [.ref 68, .int x1] (v.toList ++ [.int 14, .ref 77]) μ' (d + 1) Q) := by
  refine (R_pure0 (ins := .aload_n 0) (len := 1) (loc' := [.ref 68, .int x1]) (st' := [.ref 68]) (by decide +kernel) (fun _ => rfl)).trans ?_
  refine (R_gr (i := 34) (ci := 10) (k := 9) (n := 33) (b := 77) (by decide +kernel) (by decide +kernel) (by decide) rfl (SH_ref (by decide +kernel))).trans ?_
  refine (R_bipush (n := 14) (v := 14) (by decide +kernel) (by decide +kernel)).trans ?_
  refine (R_pure0 (ins := .aload_n 0) (len := 1) (loc' := [.ref 68, .int x1]) (st' := [.ref 68, .int 14, .ref 77]) (by decide +kernel) (fun _ => rfl)).trans ?_
  refine (R_pure0 (ins := .iload_n 1) (len := 1) (loc' := [.ref 68, .int x1]) (st' := [.int x1, .ref 68, .int 14, .ref 77]) (by decide +kernel) (fun _ => rfl)).trans ?_
  refine (R_pure0 (ins := .aload_n 0) (len := 1) (loc' := [.ref 68, .int x1]) (st' := [.ref 68, .int x1, .ref 68, .int 14, .ref 77]) (by decide +kernel) (fun _ => rfl)).trans ?_
  refine (R_gr (i := 34) (ci := 10) (k := 9) (n := 33) (b := 77) (by decide +kernel) (by decide +kernel) (by decide) rfl (SH_ref (by decide +kernel))).trans ?_
  refine (R_bipush (n := 6) (v := 6) (by decide +kernel) (by decide +kernel)).trans ?_
  refine (R_pure0 (ins := .iload_n 1) (len := 1) (loc' := [.ref 68, .int x1]) (st' := [.int x1, .int 6, .ref 77, .int x1, .ref 68, .int 14, .ref 77]) (by decide +kernel) (fun _ => rfl)).trans ?_
  refine (R_pure0 (ins := .iadd) (len := 1) (loc' := [.ref 68, .int x1]) (st' := [.int (6 + x1), .ref 77, .int x1, .ref 68, .int 14, .ref 77]) (by decide +kernel) (fun _ => rfl)).trans ?_
  refine (R_iaload (kd := 100) (n := 15) (by decide +kernel) rfl (by decide) (h1)).trans ?_
  refine (R_virt (i := 178) (f := 180) (kd := 0) (na := 2) (ml := 3) (ci := 10) (n := 33) (b := 68) (As := [.int x1, .int (mi 77 (6 + x1).toNatClampNeg)]) (rest := [.int 14, .ref 77]) (by decide +kernel) (by decide +kernel) (by decide) (by decide +kernel) rfl (by decide +kernel) rfl rfl (by decide +kernel) (Nat.le_of_ble_eq_true rfl)).trans ?_
  rfl
theorem s193_24 {L : Nat} {mi : Nat → Nat → Int32} {ml : Nat → Nat → Int64} {d : Nat} {Q : Option Value → xM → Prop} {x1 y z0 : Int32} (h1 : xin z0 15 = true) (h2 : xin (6 + x1) 15 = true) (h3 : xin (6 + x1) 15 = true) : X 193 24 [.ref 68, .int x1] [.int y, .int z0, .ref 77] (SH L, mi, ml, MR) d Q =
    Q none (SH L, (xw (xw mi 77 z0.toNatClampNeg y) 77 (6 + x1).toNatClampNeg (((xw mi 77 z0.toNatClampNeg y) 77 (6 + x1).toNatClampNeg) + 1)), ml, MR) := by
  refine (R_iastore (n := 15) (by decide +kernel) rfl (h1)).trans ?_
  refine (R_pure0 (ins := .aload_n 0) (len := 1) (loc' := [.ref 68, .int x1]) (st' := [.ref 68]) (by decide +kernel) (fun _ => rfl)).trans ?_
  refine (R_gr (i := 34) (ci := 10) (k := 9) (n := 33) (b := 77) (by decide +kernel) (by decide +kernel) (by decide) rfl (SH_ref (by decide +kernel))).trans ?_
  refine (R_bipush (n := 6) (v := 6) (by decide +kernel) (by decide +kernel)).trans ?_
  refine (R_pure0 (ins := .iload_n 1) (len := 1) (loc' := [.ref 68, .int x1]) (st' := [.int x1, .int 6, .ref 77]) (by decide +kernel) (fun _ => rfl)).trans ?_
  refine (R_pure0 (ins := .iadd) (len := 1) (loc' := [.ref 68, .int x1]) (st' := [.int (6 + x1), .ref 77]) (by decide +kernel) (fun _ => rfl)).trans ?_
  refine (R_pure0 (ins := .dup2) (len := 1) (loc' := [.ref 68, .int x1]) (st' := [.int (6 + x1), .ref 77, .int (6 + x1), .ref 77]) (by decide +kernel) (fun _ => rfl)).trans ?_
  refine (R_iaload (kd := 100) (n := 15) (by decide +kernel) rfl (by decide) (h2)).trans ?_
  refine (R_iconst (n := 1) (v := 1) (by decide +kernel) (by decide +kernel)).trans ?_
  refine (R_pure0 (ins := .iadd) (len := 1) (loc' := [.ref 68, .int x1]) (st' := [.int (((xw mi 77 z0.toNatClampNeg y) 77 (6 + x1).toNatClampNeg) + 1), .int (6 + x1), .ref 77]) (by decide +kernel) (fun _ => rfl)).trans ?_
  refine (R_iastore (n := 15) (by decide +kernel) rfl (h3)).trans ?_
  exact R_return (by decide +kernel) (by decide +kernel)
theorem s194 {L : Nat} {mi : Nat → Nat → Int32} {ml : Nat → Nat → Int64} {d : Nat} {Q : Option Value → xM → Prop} {x1 : Int32} : Xm 194 [.ref 68, .int x1] (SH L, mi, ml, MR) (d + 1) Q =
    Xm 172 [.ref 68, .int x1] (SH L, mi, ml, MR) d (fun v μ' => X 194 5 [.ref 68, .int x1] (v.toList ++ []) μ' (d + 1) Q) := by
  rw [Xm_ent (n := 2) (loc := [.ref 68, .int x1]) (by decide +kernel) rfl]
  refine (R_pure0 (ins := .aload_n 0) (len := 1) (loc' := [.ref 68, .int x1]) (st' := [.ref 68]) (by decide +kernel) (fun _ => rfl)).trans ?_
  refine (R_pure0 (ins := .iload_n 1) (len := 1) (loc' := [.ref 68, .int x1]) (st' := [.int x1, .ref 68]) (by decide +kernel) (fun _ => rfl)).trans ?_
  refine (R_virt (i := 169) (f := 172) (kd := 0) (na := 1) (ml := 2) (ci := 10) (n := 33) (b := 68) (As := [.int x1]) (rest := []) (by decide +kernel) (by decide +kernel) (by decide) (by decide +kernel) rfl (by decide +kernel) rfl rfl (by decide +kernel) (Nat.le_of_ble_eq_true rfl)).trans ?_
  rfl
theorem s194_5 {L : Nat} {mi : Nat → Nat → Int32} {ml : Nat → Nat → Int64} {d : Nat} {Q : Option Value → xM → Prop} {x1 y : Int32} : X 194 5 [.ref 68, .int x1] [.int y] (SH L, mi, ml, MR) (d + 1) Q =
    if (y = 0) then (Q (some (.int (-1))) (SH L, mi, ml, MR)) else (Xm 183 [.ref 68, .int x1] (SH L, mi, ml, MR) d (fun v μ' => X 194 15 [.ref 68, .int x1] (v.toList ++ []) μ' (d + 1) Q)) := by
  refine (R_if_ne (off := 5) (t := 10) (by decide +kernel) (by decide +kernel)).trans (ite_congr rfl (fun c0 => ?_) (fun c0 => ?_))
  · refine (R_iconst (n := (-1)) (v := (-1)) (by decide +kernel) (by decide +kernel)).trans ?_
    exact R_ireturn (by decide +kernel) (by decide +kernel)
  · refine (R_pure0 (ins := .aload_n 0) (len := 1) (loc' := [.ref 68, .int x1]) (st' := [.ref 68]) (by decide +kernel) (fun _ => rfl)).trans ?_
    refine (R_pure0 (ins := .iload_n 1) (len := 1) (loc' := [.ref 68, .int x1]) (st' := [.int x1, .ref 68]) (by decide +kernel) (fun _ => rfl)).trans ?_
    refine (R_virt (i := 194) (f := 183) (kd := 0) (na := 1) (ml := 2) (ci := 10) (n := 33) (b := 68) (As := [.int x1]) (rest := []) (by decide +kernel) (by decide +kernel) (by decide) (by decide +kernel) rfl (by decide +kernel) rfl rfl (by decide +kernel) (Nat.le_of_ble_eq_true rfl)).trans ?_
    rfl
theorem s194_15 {L : Nat} {mi : Nat → Nat → Int32} {ml : Nat → Nat → Int64} {d : Nat} {Q : Option Value → xM → Prop} {x1 y : Int32} : X 194 15 [.ref 68, .int x1] [.int y] (SH L, mi, ml, MR) (d + 1) Q =
    if (y = 0) then (Q (some (.int (-4))) (SH L, mi, ml, MR)) else (if ((mi 68 10) = 40) then (Q (some (.int (-2))) (SH L, mi, ml, MR)) else (Xm 193 [.ref 68, .int x1] (SH L, mi, ml, MR) d (fun v μ' => X 194 38 [.ref 68, .int x1] (v.toList ++ []) μ' (d + 1) Q))) := by
  refine (R_if_ne (off := 6) (t := 21) (by decide +kernel) (by decide +kernel)).trans (ite_congr rfl (fun c0 => ?_) (fun c0 => ?_))
  · refine (R_bipush (n := (-4)) (v := (-4)) (by decide +kernel) (by decide +kernel)).trans ?_
    exact R_ireturn (by decide +kernel) (by decide +kernel)
  · refine (R_pure0 (ins := .aload_n 0) (len := 1) (loc' := [.ref 68, .int x1]) (st' := [.ref 68]) (by decide +kernel) (fun _ => rfl)).trans ?_
    refine (R_gi (i := 134) (ci := 10) (k := 10) (n := 33) (by decide +kernel) (by decide +kernel) (by decide) rfl).trans ?_
    refine (R_bipush (n := 40) (v := 40) (by decide +kernel) (by decide +kernel)).trans ?_
    refine (R_icmp_ne (off := 6) (t := 33) (by decide +kernel) (by decide +kernel)).trans (ite_congr rfl (fun c1 => ?_) (fun c1 => ?_))
    · refine (R_bipush (n := (-2)) (v := (-2)) (by decide +kernel) (by decide +kernel)).trans ?_
      exact R_ireturn (by decide +kernel) (by decide +kernel)
    · refine (R_pure0 (ins := .aload_n 0) (len := 1) (loc' := [.ref 68, .int x1]) (st' := [.ref 68]) (by decide +kernel) (fun _ => rfl)).trans ?_
      refine (R_pure0 (ins := .iload_n 1) (len := 1) (loc' := [.ref 68, .int x1]) (st' := [.int x1, .ref 68]) (by decide +kernel) (fun _ => rfl)).trans ?_
      refine (R_virt (i := 197) (f := 193) (kd := 0) (na := 1) (ml := 2) (ci := 10) (n := 33) (b := 68) (As := [.int x1]) (rest := []) (by decide +kernel) (by decide +kernel) (by decide) (by decide +kernel) rfl (by decide +kernel) rfl rfl (by decide +kernel) (Nat.le_of_ble_eq_true rfl)).trans ?_
      rfl
theorem s194_38 {L : Nat} {mi : Nat → Nat → Int32} {ml : Nat → Nat → Int64} {d : Nat} {Q : Option Value → xM → Prop} {x1 : Int32} : X 194 38 [.ref 68, .int x1] [] (SH L, mi, ml, MR) d Q =
    Q (some (.int (mi 77 (14 : Int32).toNatClampNeg))) (SH L, mi, ml, MR) := by
  refine (R_pure0 (ins := .aload_n 0) (len := 1) (loc' := [.ref 68, .int x1]) (st' := [.ref 68]) (by decide +kernel) (fun _ => rfl)).trans ?_
  refine (R_gr (i := 34) (ci := 10) (k := 9) (n := 33) (b := 77) (by decide +kernel) (by decide +kernel) (by decide) rfl (SH_ref (by decide +kernel))).trans ?_
  refine (R_bipush (n := 14) (v := 14) (by decide +kernel) (by decide +kernel)).trans ?_
  refine (R_iaload (kd := 100) (n := 15) (by decide +kernel) rfl (by decide) (by decide)).trans ?_
  exact R_ireturn (by decide +kernel) (by decide +kernel)
theorem s195 {L : Nat} {mi : Nat → Nat → Int32} {ml : Nat → Nat → Int64} {d : Nat} {Q : Option Value → xM → Prop} : Xm 195 [.ref 68] (SH L, mi, ml, MR) d Q =
    Q (some (.int (((1 <<< ((mi 68 4) &&& 31)) - 1) &&& ((mi 77 (12 : Int32).toNatClampNeg) ^^^ (-1))))) (SH L, mi, ml, MR) := by
  rw [Xm_ent (n := 1) (loc := [.ref 68]) (by decide +kernel) rfl]
  refine (R_iconst (n := 1) (v := 1) (by decide +kernel) (by decide +kernel)).trans ?_
  refine (R_pure0 (ins := .aload_n 0) (len := 1) (loc' := [.ref 68]) (st' := [.ref 68, .int 1]) (by decide +kernel) (fun _ => rfl)).trans ?_
  refine (R_gi (i := 131) (ci := 10) (k := 4) (n := 33) (by decide +kernel) (by decide +kernel) (by decide) rfl).trans ?_
  refine (R_pure0 (ins := .ishl) (len := 1) (loc' := [.ref 68]) (st' := [.int (1 <<< ((mi 68 4) &&& 31))]) (by decide +kernel) (fun _ => rfl)).trans ?_
  refine (R_iconst (n := 1) (v := 1) (by decide +kernel) (by decide +kernel)).trans ?_
  refine (R_pure0 (ins := .isub) (len := 1) (loc' := [.ref 68]) (st' := [.int ((1 <<< ((mi 68 4) &&& 31)) - 1)]) (by decide +kernel) (fun _ => rfl)).trans ?_
  refine (R_pure0 (ins := .aload_n 0) (len := 1) (loc' := [.ref 68]) (st' := [.ref 68, .int ((1 <<< ((mi 68 4) &&& 31)) - 1)]) (by decide +kernel) (fun _ => rfl)).trans ?_
  refine (R_gr (i := 34) (ci := 10) (k := 9) (n := 33) (b := 77) (by decide +kernel) (by decide +kernel) (by decide) rfl (SH_ref (by decide +kernel))).trans ?_
  refine (R_bipush (n := 12) (v := 12) (by decide +kernel) (by decide +kernel)).trans ?_
  refine (R_iaload (kd := 100) (n := 15) (by decide +kernel) rfl (by decide) (by decide)).trans ?_
  refine (R_iconst (n := (-1)) (v := (-1)) (by decide +kernel) (by decide +kernel)).trans ?_
  refine (R_pure0 (ins := .ixor) (len := 1) (loc' := [.ref 68]) (st' := [.int ((mi 77 (12 : Int32).toNatClampNeg) ^^^ (-1)), .int ((1 <<< ((mi 68 4) &&& 31)) - 1)]) (by decide +kernel) (fun _ => rfl)).trans ?_
  refine (R_pure0 (ins := .iand) (len := 1) (loc' := [.ref 68]) (st' := [.int (((1 <<< ((mi 68 4) &&& 31)) - 1) &&& ((mi 77 (12 : Int32).toNatClampNeg) ^^^ (-1)))]) (by decide +kernel) (fun _ => rfl)).trans ?_
  exact R_ireturn (by decide +kernel) (by decide +kernel)
theorem s196 {L : Nat} {mi : Nat → Nat → Int32} {ml : Nat → Nat → Int64} {d : Nat} {Q : Option Value → xM → Prop} {x1 : Int32} : Xm 196 [.ref 68, .int x1] (SH L, mi, ml, MR) (d + 1) Q =
    Xm 172 [.ref 68, .int x1] (SH L, mi, ml, MR) d (fun v μ' => X 196 5 [.ref 68, .int x1] (v.toList ++ []) μ' (d + 1) Q) := by
  rw [Xm_ent (n := 2) (loc := [.ref 68, .int x1]) (by decide +kernel) rfl]
  refine (R_pure0 (ins := .aload_n 0) (len := 1) (loc' := [.ref 68, .int x1]) (st' := [.ref 68]) (by decide +kernel) (fun _ => rfl)).trans ?_
  refine (R_pure0 (ins := .iload_n 1) (len := 1) (loc' := [.ref 68, .int x1]) (st' := [.int x1, .ref 68]) (by decide +kernel) (fun _ => rfl)).trans ?_
  refine (R_virt (i := 169) (f := 172) (kd := 0) (na := 1) (ml := 2) (ci := 10) (n := 33) (b := 68) (As := [.int x1]) (rest := []) (by decide +kernel) (by decide +kernel) (by decide) (by decide +kernel) rfl (by decide +kernel) rfl rfl (by decide +kernel) (Nat.le_of_ble_eq_true rfl)).trans ?_
  rfl
theorem s196_5 {L : Nat} {mi : Nat → Nat → Int32} {ml : Nat → Nat → Int64} {d : Nat} {Q : Option Value → xM → Prop} {x1 y : Int32} : X 196 5 [.ref 68, .int x1] [.int y] (SH L, mi, ml, MR) (d + 1) Q =
    if (y = 0) then (Q (some (.int (-1))) (SH L, mi, ml, MR)) else (Xm 150 [.int (mi 77 (12 : Int32).toNatClampNeg), .int x1] (SH L, mi, ml, MR) d (fun v μ' => X 196 21 [.ref 68, .int x1] (v.toList ++ []) μ' (d + 1) Q)) := by
  refine (R_if_ne (off := 5) (t := 10) (by decide +kernel) (by decide +kernel)).trans (ite_congr rfl (fun c0 => ?_) (fun c0 => ?_))
  · refine (R_iconst (n := (-1)) (v := (-1)) (by decide +kernel) (by decide +kernel)).trans ?_
    exact R_ireturn (by decide +kernel) (by decide +kernel)
  · refine (R_pure0 (ins := .aload_n 0) (len := 1) (loc' := [.ref 68, .int x1]) (st' := [.ref 68]) (by decide +kernel) (fun _ => rfl)).trans ?_
    refine (R_gr (i := 34) (ci := 10) (k := 9) (n := 33) (b := 77) (by decide +kernel) (by decide +kernel) (by decide) rfl (SH_ref (by decide +kernel))).trans ?_
    refine (R_bipush (n := 12) (v := 12) (by decide +kernel) (by decide +kernel)).trans ?_
    refine (R_iaload (kd := 100) (n := 15) (by decide +kernel) rfl (by decide) (by decide)).trans ?_
    refine (R_pure0 (ins := .iload_n 1) (len := 1) (loc' := [.ref 68, .int x1]) (st' := [.int x1, .int (mi 77 (12 : Int32).toNatClampNeg)]) (by decide +kernel) (fun _ => rfl)).trans ?_
    refine (R_static (i := 156) (f := 150) (kd := 2) (na := 2) (ml := 2) (As := [.int (mi 77 (12 : Int32).toNatClampNeg), .int x1]) (rest := []) (by decide +kernel) (by decide +kernel) (by decide) (by decide +kernel) rfl rfl (by decide +kernel) (Nat.le_of_ble_eq_true rfl)).trans ?_
    rfl
theorem s196_21 {L : Nat} {mi : Nat → Nat → Int32} {ml : Nat → Nat → Int64} {d : Nat} {Q : Option Value → xM → Prop} {x1 y : Int32} : X 196 21 [.ref 68, .int x1] [.int y] (SH L, mi, ml, MR) (d + 1) Q =
    if (y = 0) then (if ((mi 68 10) = 40) then (Q (some (.int (-2))) (SH L, mi, ml, MR)) else (Xm 189 [.ref 68] (SH L, mi, ml, MR) d (fun v μ' => X 196 43 [.ref 68, .int x1] (v.toList ++ []) μ' (d + 1) Q))) else (Q (some (.int (-4))) (SH L, mi, ml, MR)) := by
  refine (R_if_eq (off := 6) (t := 27) (by decide +kernel) (by decide +kernel)).trans (ite_congr rfl (fun c0 => ?_) (fun c0 => ?_))
  · refine (R_pure0 (ins := .aload_n 0) (len := 1) (loc' := [.ref 68, .int x1]) (st' := [.ref 68]) (by decide +kernel) (fun _ => rfl)).trans ?_
    refine (R_gi (i := 134) (ci := 10) (k := 10) (n := 33) (by decide +kernel) (by decide +kernel) (by decide) rfl).trans ?_
    refine (R_bipush (n := 40) (v := 40) (by decide +kernel) (by decide +kernel)).trans ?_
    refine (R_icmp_ne (off := 6) (t := 39) (by decide +kernel) (by decide +kernel)).trans (ite_congr rfl (fun c1 => ?_) (fun c1 => ?_))
    · refine (R_bipush (n := (-2)) (v := (-2)) (by decide +kernel) (by decide +kernel)).trans ?_
      exact R_ireturn (by decide +kernel) (by decide +kernel)
    · refine (R_pure0 (ins := .aload_n 0) (len := 1) (loc' := [.ref 68, .int x1]) (st' := [.ref 68]) (by decide +kernel) (fun _ => rfl)).trans ?_
      refine (R_virt (i := 188) (f := 189) (kd := 0) (na := 0) (ml := 1) (ci := 10) (n := 33) (b := 68) (As := []) (rest := []) (by decide +kernel) (by decide +kernel) (by decide) (by decide +kernel) rfl (by decide +kernel) rfl rfl (by decide +kernel) (Nat.le_of_ble_eq_true rfl)).trans ?_
      rfl
  · refine (R_bipush (n := (-4)) (v := (-4)) (by decide +kernel) (by decide +kernel)).trans ?_
    exact R_ireturn (by decide +kernel) (by decide +kernel)
theorem s196_43 {L : Nat} {mi : Nat → Nat → Int32} {ml : Nat → Nat → Int64} {d : Nat} {Q : Option Value → xM → Prop} {x1 : Int32} : X 196 43 [.ref 68, .int x1] [] (SH L, mi, ml, MR) (d + 1) Q =
    Xm 195 [.ref 68] (SH L, (xw mi 77 (12 : Int32).toNatClampNeg ((mi 77 (12 : Int32).toNatClampNeg) ||| (1 <<< (x1 &&& 31)))), ml, MR) d (fun v μ' => X 196 60 [.ref 68, .int x1] (v.toList ++ []) μ' (d + 1) Q) := by
  refine (R_pure0 (ins := .aload_n 0) (len := 1) (loc' := [.ref 68, .int x1]) (st' := [.ref 68]) (by decide +kernel) (fun _ => rfl)).trans ?_
  refine (R_gr (i := 34) (ci := 10) (k := 9) (n := 33) (b := 77) (by decide +kernel) (by decide +kernel) (by decide) rfl (SH_ref (by decide +kernel))).trans ?_
  refine (R_bipush (n := 12) (v := 12) (by decide +kernel) (by decide +kernel)).trans ?_
  refine (R_pure0 (ins := .dup2) (len := 1) (loc' := [.ref 68, .int x1]) (st' := [.int 12, .ref 77, .int 12, .ref 77]) (by decide +kernel) (fun _ => rfl)).trans ?_
  refine (R_iaload (kd := 100) (n := 15) (by decide +kernel) rfl (by decide) (by decide)).trans ?_
  refine (R_iconst (n := 1) (v := 1) (by decide +kernel) (by decide +kernel)).trans ?_
  refine (R_pure0 (ins := .iload_n 1) (len := 1) (loc' := [.ref 68, .int x1]) (st' := [.int x1, .int 1, .int (mi 77 (12 : Int32).toNatClampNeg), .int 12, .ref 77]) (by decide +kernel) (fun _ => rfl)).trans ?_
  refine (R_pure0 (ins := .ishl) (len := 1) (loc' := [.ref 68, .int x1]) (st' := [.int (1 <<< (x1 &&& 31)), .int (mi 77 (12 : Int32).toNatClampNeg), .int 12, .ref 77]) (by decide +kernel) (fun _ => rfl)).trans ?_
  refine (R_pure0 (ins := .ior) (len := 1) (loc' := [.ref 68, .int x1]) (st' := [.int ((mi 77 (12 : Int32).toNatClampNeg) ||| (1 <<< (x1 &&& 31))), .int 12, .ref 77]) (by decide +kernel) (fun _ => rfl)).trans ?_
  refine (R_iastore (n := 15) (by decide +kernel) rfl (by decide)).trans ?_
  refine (R_pure0 (ins := .aload_n 0) (len := 1) (loc' := [.ref 68, .int x1]) (st' := [.ref 68]) (by decide +kernel) (fun _ => rfl)).trans ?_
  refine (R_virt (i := 200) (f := 195) (kd := 0) (na := 0) (ml := 1) (ci := 10) (n := 33) (b := 68) (As := []) (rest := []) (by decide +kernel) (by decide +kernel) (by decide) (by decide +kernel) rfl (by decide +kernel) rfl rfl (by decide +kernel) (Nat.le_of_ble_eq_true rfl)).trans ?_
  rfl
theorem s196_60 {L : Nat} {mi : Nat → Nat → Int32} {ml : Nat → Nat → Int64} {d : Nat} {Q : Option Value → xM → Prop} {x1 y : Int32} : X 196 60 [.ref 68, .int x1] [.int y] (SH L, mi, ml, MR) (d + 1) Q =
    Xm 151 [.int y] (SH L, mi, ml, MR) d (fun v μ' => X 196 63 [.ref 68, .int x1] (v.toList ++ []) μ' (d + 1) Q) := by
  refine (R_static (i := 204) (f := 151) (kd := 2) (na := 1) (ml := 3) (As := [.int y]) (rest := []) (by decide +kernel) (by decide +kernel) (by decide) (by decide +kernel) rfl rfl (by decide +kernel) (Nat.le_of_ble_eq_true rfl)).trans ?_
  rfl
theorem s196_63 {L : Nat} {mi : Nat → Nat → Int32} {ml : Nat → Nat → Int64} {d : Nat} {Q : Option Value → xM → Prop} {x1 y : Int32} : X 196 63 [.ref 68, .int x1] [.int y] (SH L, mi, ml, MR) d Q =
    Q (some (.int y)) (SH L, mi, ml, MR) := by
  exact R_ireturn (by decide +kernel) (by decide +kernel)
theorem s197 {L : Nat} {mi : Nat → Nat → Int32} {ml : Nat → Nat → Int64} {d : Nat} {Q : Option Value → xM → Prop} {x1 : Int32} : Xm 197 [.ref 68, .int x1] (SH L, mi, ml, MR) (d + 1) Q =
    Xm 149 [.long x1.toInt64, .long 0, .long (mi 68 10).toInt64] (SH L, mi, ml, MR) d (fun v μ' => X 197 11 [.ref 68, .int x1, xmk] (v.toList ++ []) μ' (d + 1) Q) := by
  rw [Xm_ent (n := 3) (loc := [.ref 68, .int x1, xmk]) (by decide +kernel) rfl]
  refine (R_pure0 (ins := .iload_n 1) (len := 1) (loc' := [.ref 68, .int x1, xmk]) (st' := [.int x1]) (by decide +kernel) (fun _ => rfl)).trans ?_
  refine (R_pure0 (ins := .i2l) (len := 1) (loc' := [.ref 68, .int x1, xmk]) (st' := [.long x1.toInt64]) (by decide +kernel) (fun _ => rfl)).trans ?_
  refine (R_lconst (n := 0) (v := 0) (by decide +kernel) (by decide +kernel)).trans ?_
  refine (R_pure0 (ins := .aload_n 0) (len := 1) (loc' := [.ref 68, .int x1, xmk]) (st' := [.ref 68, .long 0, .long x1.toInt64]) (by decide +kernel) (fun _ => rfl)).trans ?_
  refine (R_gi (i := 134) (ci := 10) (k := 10) (n := 33) (by decide +kernel) (by decide +kernel) (by decide) rfl).trans ?_
  refine (R_pure0 (ins := .i2l) (len := 1) (loc' := [.ref 68, .int x1, xmk]) (st' := [.long (mi 68 10).toInt64, .long 0, .long x1.toInt64]) (by decide +kernel) (fun _ => rfl)).trans ?_
  refine (R_static (i := 87) (f := 149) (kd := 2) (na := 3) (ml := 6) (As := [.long x1.toInt64, .long 0, .long (mi 68 10).toInt64]) (rest := []) (by decide +kernel) (by decide +kernel) (by decide) (by decide +kernel) rfl rfl (by decide +kernel) (Nat.le_of_ble_eq_true rfl)).trans ?_
  rfl
theorem s197_11 {L : Nat} {mi : Nat → Nat → Int32} {ml : Nat → Nat → Int64} {d : Nat} {Q : Option Value → xM → Prop} {x1 y : Int32} : X 197 11 [.ref 68, .int x1, xmk] [.int y] (SH L, mi, ml, MR) (d + 1) Q =
    if (y = 0) then (Q (some (.int (-1))) (SH L, mi, ml, MR)) else (if ((0 : Int32) < ((mi 68 10) - x1)) then (Xm 188 [.ref 78, .int (15 * x1), .ref 77, .int 0, .int 15] (SH L, mi, ml, MR) d (fun v μ' => X 197 45 [.ref 68, .int x1, .int ((mi 68 10) - x1)] (v.toList ++ []) μ' (d + 1) Q)) else (Q (some (.int ((mi 68 10) - x1))) (SH L, (xw mi 68 10 x1), ml, MR))) := by
  refine (R_if_ne (off := 5) (t := 16) (by decide +kernel) (by decide +kernel)).trans (ite_congr rfl (fun c0 => ?_) (fun c0 => ?_))
  · refine (R_iconst (n := (-1)) (v := (-1)) (by decide +kernel) (by decide +kernel)).trans ?_
    exact R_ireturn (by decide +kernel) (by decide +kernel)
  · refine (R_pure0 (ins := .aload_n 0) (len := 1) (loc' := [.ref 68, .int x1, xmk]) (st' := [.ref 68]) (by decide +kernel) (fun _ => rfl)).trans ?_
    refine (R_gi (i := 134) (ci := 10) (k := 10) (n := 33) (by decide +kernel) (by decide +kernel) (by decide) rfl).trans ?_
    refine (R_pure0 (ins := .iload_n 1) (len := 1) (loc' := [.ref 68, .int x1, xmk]) (st' := [.int x1, .int (mi 68 10)]) (by decide +kernel) (fun _ => rfl)).trans ?_
    refine (R_pure0 (ins := .isub) (len := 1) (loc' := [.ref 68, .int x1, xmk]) (st' := [.int ((mi 68 10) - x1)]) (by decide +kernel) (fun _ => rfl)).trans ?_
    refine (R_pure0 (ins := .istore_n 2) (len := 1) (loc' := [.ref 68, .int x1, .int ((mi 68 10) - x1)]) (st' := []) (by decide +kernel) (fun _ => rfl)).trans ?_
    refine (R_pure0 (ins := .iload_n 2) (len := 1) (loc' := [.ref 68, .int x1, .int ((mi 68 10) - x1)]) (st' := [.int ((mi 68 10) - x1)]) (by decide +kernel) (fun _ => rfl)).trans ?_
    refine (R_if_le (off := 21) (t := 45) (by decide +kernel) (by decide +kernel)).trans (ite_congr rfl (fun c1 => ?_) (fun c1 => ?_))
    · refine (R_pure0 (ins := .aload_n 0) (len := 1) (loc' := [.ref 68, .int x1, .int ((mi 68 10) - x1)]) (st' := [.ref 68]) (by decide +kernel) (fun _ => rfl)).trans ?_
      refine (R_gr (i := 37) (ci := 10) (k := 11) (n := 33) (b := 78) (by decide +kernel) (by decide +kernel) (by decide) rfl (SH_ref (by decide +kernel))).trans ?_
      refine (R_bipush (n := 15) (v := 15) (by decide +kernel) (by decide +kernel)).trans ?_
      refine (R_pure0 (ins := .iload_n 1) (len := 1) (loc' := [.ref 68, .int x1, .int ((mi 68 10) - x1)]) (st' := [.int x1, .int 15, .ref 78]) (by decide +kernel) (fun _ => rfl)).trans ?_
      refine (R_pure0 (ins := .imul) (len := 1) (loc' := [.ref 68, .int x1, .int ((mi 68 10) - x1)]) (st' := [.int (15 * x1), .ref 78]) (by decide +kernel) (fun _ => rfl)).trans ?_
      refine (R_pure0 (ins := .aload_n 0) (len := 1) (loc' := [.ref 68, .int x1, .int ((mi 68 10) - x1)]) (st' := [.ref 68, .int (15 * x1), .ref 78]) (by decide +kernel) (fun _ => rfl)).trans ?_
      refine (R_gr (i := 34) (ci := 10) (k := 9) (n := 33) (b := 77) (by decide +kernel) (by decide +kernel) (by decide) rfl (SH_ref (by decide +kernel))).trans ?_
      refine (R_iconst (n := 0) (v := 0) (by decide +kernel) (by decide +kernel)).trans ?_
      refine (R_bipush (n := 15) (v := 15) (by decide +kernel) (by decide +kernel)).trans ?_
      refine (R_static (i := 184) (f := 188) (kd := 2) (na := 5) (ml := 6) (As := [.ref 78, .int (15 * x1), .ref 77, .int 0, .int 15]) (rest := []) (by decide +kernel) (by decide +kernel) (by decide) (by decide +kernel) rfl rfl (by decide +kernel) (Nat.le_of_ble_eq_true rfl)).trans ?_
      rfl
    · refine (R_pure0 (ins := .aload_n 0) (len := 1) (loc' := [.ref 68, .int x1, .int ((mi 68 10) - x1)]) (st' := [.ref 68]) (by decide +kernel) (fun _ => rfl)).trans ?_
      refine (R_pure0 (ins := .iload_n 1) (len := 1) (loc' := [.ref 68, .int x1, .int ((mi 68 10) - x1)]) (st' := [.int x1, .ref 68]) (by decide +kernel) (fun _ => rfl)).trans ?_
      refine (R_pi (i := 134) (ci := 10) (k := 10) (n := 33) (by decide +kernel) (by decide +kernel) (by decide) rfl).trans ?_
      refine (R_pure0 (ins := .iload_n 2) (len := 1) (loc' := [.ref 68, .int x1, .int ((mi 68 10) - x1)]) (st' := [.int ((mi 68 10) - x1)]) (by decide +kernel) (fun _ => rfl)).trans ?_
      exact R_ireturn (by decide +kernel) (by decide +kernel)
theorem s197_45 {L : Nat} {mi : Nat → Nat → Int32} {ml : Nat → Nat → Int64} {d : Nat} {Q : Option Value → xM → Prop} {x1 x2 : Int32} : X 197 45 [.ref 68, .int x1, .int x2] [] (SH L, mi, ml, MR) d Q =
    Q (some (.int x2)) (SH L, (xw mi 68 10 x1), ml, MR) := by
  refine (R_pure0 (ins := .aload_n 0) (len := 1) (loc' := [.ref 68, .int x1, .int x2]) (st' := [.ref 68]) (by decide +kernel) (fun _ => rfl)).trans ?_
  refine (R_pure0 (ins := .iload_n 1) (len := 1) (loc' := [.ref 68, .int x1, .int x2]) (st' := [.int x1, .ref 68]) (by decide +kernel) (fun _ => rfl)).trans ?_
  refine (R_pi (i := 134) (ci := 10) (k := 10) (n := 33) (by decide +kernel) (by decide +kernel) (by decide) rfl).trans ?_
  refine (R_pure0 (ins := .iload_n 2) (len := 1) (loc' := [.ref 68, .int x1, .int x2]) (st' := [.int x2]) (by decide +kernel) (fun _ => rfl)).trans ?_
  exact R_ireturn (by decide +kernel) (by decide +kernel)
theorem s198 {L : Nat} {mi : Nat → Nat → Int32} {ml : Nat → Nat → Int64} {d : Nat} {Q : Option Value → xM → Prop} {x1 : Int32} : Xm 198 [.ref 68, .int x1] (SH L, mi, ml, MR) (d + 1) Q =
    Xm 149 [.long x1.toInt64, .long 0, .long 2] (SH L, mi, ml, MR) d (fun v μ' => X 198 9 [.ref 68, .int x1] (v.toList ++ []) μ' (d + 1) Q) := by
  rw [Xm_ent (n := 2) (loc := [.ref 68, .int x1]) (by decide +kernel) rfl]
  refine (R_pure0 (ins := .iload_n 1) (len := 1) (loc' := [.ref 68, .int x1]) (st' := [.int x1]) (by decide +kernel) (fun _ => rfl)).trans ?_
  refine (R_pure0 (ins := .i2l) (len := 1) (loc' := [.ref 68, .int x1]) (st' := [.long x1.toInt64]) (by decide +kernel) (fun _ => rfl)).trans ?_
  refine (R_lconst (n := 0) (v := 0) (by decide +kernel) (by decide +kernel)).trans ?_
  refine (R_ldc2 (i := 207) (v := 2) (by decide +kernel) (by decide +kernel)).trans ?_
  refine (R_static (i := 87) (f := 149) (kd := 2) (na := 3) (ml := 6) (As := [.long x1.toInt64, .long 0, .long 2]) (rest := []) (by decide +kernel) (by decide +kernel) (by decide) (by decide +kernel) rfl rfl (by decide +kernel) (Nat.le_of_ble_eq_true rfl)).trans ?_
  rfl
theorem s198_9 {L : Nat} {mi : Nat → Nat → Int32} {ml : Nat → Nat → Int64} {d : Nat} {Q : Option Value → xM → Prop} {x1 y : Int32} : X 198 9 [.ref 68, .int x1] [.int y] (SH L, mi, ml, MR) (d + 1) Q =
    if (y = 0) then (Q (some (.int (-1))) (SH L, mi, ml, MR)) else (if ((mi 68 4) = 0) then (Q (some (.int (-4))) (SH L, mi, ml, MR)) else (Xm 188 [.ref 77, .int 0, .ref 79, .int (616 * x1), .int 15] (SH L, mi, ml, MR) d (fun v μ' => X 198 43 [.ref 68, .int x1] (v.toList ++ []) μ' (d + 1) Q))) := by
  refine (R_if_ne (off := 5) (t := 14) (by decide +kernel) (by decide +kernel)).trans (ite_congr rfl (fun c0 => ?_) (fun c0 => ?_))
  · refine (R_iconst (n := (-1)) (v := (-1)) (by decide +kernel) (by decide +kernel)).trans ?_
    exact R_ireturn (by decide +kernel) (by decide +kernel)
  · refine (R_pure0 (ins := .aload_n 0) (len := 1) (loc' := [.ref 68, .int x1]) (st' := [.ref 68]) (by decide +kernel) (fun _ => rfl)).trans ?_
    refine (R_gi (i := 131) (ci := 10) (k := 4) (n := 33) (by decide +kernel) (by decide +kernel) (by decide) rfl).trans ?_
    refine (R_if_ne (off := 6) (t := 24) (by decide +kernel) (by decide +kernel)).trans (ite_congr rfl (fun c1 => ?_) (fun c1 => ?_))
    · refine (R_bipush (n := (-4)) (v := (-4)) (by decide +kernel) (by decide +kernel)).trans ?_
      exact R_ireturn (by decide +kernel) (by decide +kernel)
    · refine (R_pure0 (ins := .aload_n 0) (len := 1) (loc' := [.ref 68, .int x1]) (st' := [.ref 68]) (by decide +kernel) (fun _ => rfl)).trans ?_
      refine (R_gr (i := 34) (ci := 10) (k := 9) (n := 33) (b := 77) (by decide +kernel) (by decide +kernel) (by decide) rfl (SH_ref (by decide +kernel))).trans ?_
      refine (R_iconst (n := 0) (v := 0) (by decide +kernel) (by decide +kernel)).trans ?_
      refine (R_pure0 (ins := .aload_n 0) (len := 1) (loc' := [.ref 68, .int x1]) (st' := [.ref 68, .int 0, .ref 77]) (by decide +kernel) (fun _ => rfl)).trans ?_
      refine (R_gr (i := 40) (ci := 10) (k := 12) (n := 33) (b := 79) (by decide +kernel) (by decide +kernel) (by decide) rfl (SH_ref (by decide +kernel))).trans ?_
      refine (R_sipush (n := 616) (v := 616) (by decide +kernel) (by decide +kernel)).trans ?_
      refine (R_pure0 (ins := .iload_n 1) (len := 1) (loc' := [.ref 68, .int x1]) (st' := [.int x1, .int 616, .ref 79, .int 0, .ref 77]) (by decide +kernel) (fun _ => rfl)).trans ?_
      refine (R_pure0 (ins := .imul) (len := 1) (loc' := [.ref 68, .int x1]) (st' := [.int (616 * x1), .ref 79, .int 0, .ref 77]) (by decide +kernel) (fun _ => rfl)).trans ?_
      refine (R_bipush (n := 15) (v := 15) (by decide +kernel) (by decide +kernel)).trans ?_
      refine (R_static (i := 184) (f := 188) (kd := 2) (na := 5) (ml := 6) (As := [.ref 77, .int 0, .ref 79, .int (616 * x1), .int 15]) (rest := []) (by decide +kernel) (by decide +kernel) (by decide) (by decide +kernel) rfl rfl (by decide +kernel) (Nat.le_of_ble_eq_true rfl)).trans ?_
      rfl
theorem s198_43 {L : Nat} {mi : Nat → Nat → Int32} {ml : Nat → Nat → Int64} {d : Nat} {Q : Option Value → xM → Prop} {x1 : Int32} : X 198 43 [.ref 68, .int x1] [] (SH L, mi, ml, MR) (d + 1) Q =
    Xm 188 [.ref 78, .int 0, .ref 79, .int ((616 * x1) + 15), .int 600] (SH L, mi, ml, MR) d (fun v μ' => X 198 66 [.ref 68, .int x1] (v.toList ++ []) μ' (d + 1) Q) := by
  refine (R_pure0 (ins := .aload_n 0) (len := 1) (loc' := [.ref 68, .int x1]) (st' := [.ref 68]) (by decide +kernel) (fun _ => rfl)).trans ?_
  refine (R_gr (i := 37) (ci := 10) (k := 11) (n := 33) (b := 78) (by decide +kernel) (by decide +kernel) (by decide) rfl (SH_ref (by decide +kernel))).trans ?_
  refine (R_iconst (n := 0) (v := 0) (by decide +kernel) (by decide +kernel)).trans ?_
  refine (R_pure0 (ins := .aload_n 0) (len := 1) (loc' := [.ref 68, .int x1]) (st' := [.ref 68, .int 0, .ref 78]) (by decide +kernel) (fun _ => rfl)).trans ?_
  refine (R_gr (i := 40) (ci := 10) (k := 12) (n := 33) (b := 79) (by decide +kernel) (by decide +kernel) (by decide) rfl (SH_ref (by decide +kernel))).trans ?_
  refine (R_sipush (n := 616) (v := 616) (by decide +kernel) (by decide +kernel)).trans ?_
  refine (R_pure0 (ins := .iload_n 1) (len := 1) (loc' := [.ref 68, .int x1]) (st' := [.int x1, .int 616, .ref 79, .int 0, .ref 78]) (by decide +kernel) (fun _ => rfl)).trans ?_
  refine (R_pure0 (ins := .imul) (len := 1) (loc' := [.ref 68, .int x1]) (st' := [.int (616 * x1), .ref 79, .int 0, .ref 78]) (by decide +kernel) (fun _ => rfl)).trans ?_
  refine (R_bipush (n := 15) (v := 15) (by decide +kernel) (by decide +kernel)).trans ?_
  refine (R_pure0 (ins := .iadd) (len := 1) (loc' := [.ref 68, .int x1]) (st' := [.int ((616 * x1) + 15), .ref 79, .int 0, .ref 78]) (by decide +kernel) (fun _ => rfl)).trans ?_
  refine (R_sipush (n := 600) (v := 600) (by decide +kernel) (by decide +kernel)).trans ?_
  refine (R_static (i := 184) (f := 188) (kd := 2) (na := 5) (ml := 6) (As := [.ref 78, .int 0, .ref 79, .int ((616 * x1) + 15), .int 600]) (rest := []) (by decide +kernel) (by decide +kernel) (by decide) (by decide +kernel) rfl rfl (by decide +kernel) (Nat.le_of_ble_eq_true rfl)).trans ?_
  rfl
theorem s198_66 {L : Nat} {mi : Nat → Nat → Int32} {ml : Nat → Nat → Int64} {d : Nat} {Q : Option Value → xM → Prop} {x1 : Int32} (h1 : xin ((616 * x1) + 615) 1848 = true) (h2 : xin x1 3 = true) : X 198 66 [.ref 68, .int x1] [] (SH L, mi, ml, MR) d Q =
    Q (some (.int ((xw (xw mi 79 ((616 * x1) + 615).toNatClampNeg (mi 68 10)) 80 x1.toNatClampNeg 1) 68 10))) (SH L, (xw (xw mi 79 ((616 * x1) + 615).toNatClampNeg (mi 68 10)) 80 x1.toNatClampNeg 1), ml, MR) := by
  refine (R_pure0 (ins := .aload_n 0) (len := 1) (loc' := [.ref 68, .int x1]) (st' := [.ref 68]) (by decide +kernel) (fun _ => rfl)).trans ?_
  refine (R_gr (i := 40) (ci := 10) (k := 12) (n := 33) (b := 79) (by decide +kernel) (by decide +kernel) (by decide) rfl (SH_ref (by decide +kernel))).trans ?_
  refine (R_sipush (n := 616) (v := 616) (by decide +kernel) (by decide +kernel)).trans ?_
  refine (R_pure0 (ins := .iload_n 1) (len := 1) (loc' := [.ref 68, .int x1]) (st' := [.int x1, .int 616, .ref 79]) (by decide +kernel) (fun _ => rfl)).trans ?_
  refine (R_pure0 (ins := .imul) (len := 1) (loc' := [.ref 68, .int x1]) (st' := [.int (616 * x1), .ref 79]) (by decide +kernel) (fun _ => rfl)).trans ?_
  refine (R_sipush (n := 615) (v := 615) (by decide +kernel) (by decide +kernel)).trans ?_
  refine (R_pure0 (ins := .iadd) (len := 1) (loc' := [.ref 68, .int x1]) (st' := [.int ((616 * x1) + 615), .ref 79]) (by decide +kernel) (fun _ => rfl)).trans ?_
  refine (R_pure0 (ins := .aload_n 0) (len := 1) (loc' := [.ref 68, .int x1]) (st' := [.ref 68, .int ((616 * x1) + 615), .ref 79]) (by decide +kernel) (fun _ => rfl)).trans ?_
  refine (R_gi (i := 134) (ci := 10) (k := 10) (n := 33) (by decide +kernel) (by decide +kernel) (by decide) rfl).trans ?_
  refine (R_iastore (n := 1848) (by decide +kernel) rfl (h1)).trans ?_
  refine (R_pure0 (ins := .aload_n 0) (len := 1) (loc' := [.ref 68, .int x1]) (st' := [.ref 68]) (by decide +kernel) (fun _ => rfl)).trans ?_
  refine (R_gr (i := 43) (ci := 10) (k := 13) (n := 33) (b := 80) (by decide +kernel) (by decide +kernel) (by decide) rfl (SH_ref (by decide +kernel))).trans ?_
  refine (R_pure0 (ins := .iload_n 1) (len := 1) (loc' := [.ref 68, .int x1]) (st' := [.int x1, .ref 80]) (by decide +kernel) (fun _ => rfl)).trans ?_
  refine (R_iconst (n := 1) (v := 1) (by decide +kernel) (by decide +kernel)).trans ?_
  refine (R_bastore (n := 3) (by decide +kernel) rfl (h2) (by decide)).trans ?_
  refine (R_pure0 (ins := .aload_n 0) (len := 1) (loc' := [.ref 68, .int x1]) (st' := [.ref 68]) (by decide +kernel) (fun _ => rfl)).trans ?_
  refine (R_gi (i := 134) (ci := 10) (k := 10) (n := 33) (by decide +kernel) (by decide +kernel) (by decide) rfl).trans ?_
  exact R_ireturn (by decide +kernel) (by decide +kernel)
theorem s199 {L : Nat} {mi : Nat → Nat → Int32} {ml : Nat → Nat → Int64} {d : Nat} {Q : Option Value → xM → Prop} {x1 : Int32} : Xm 199 [.ref 68, .int x1] (SH L, mi, ml, MR) (d + 1) Q =
    Xm 149 [.long x1.toInt64, .long 0, .long 2] (SH L, mi, ml, MR) d (fun v μ' => X 199 9 [.ref 68, .int x1] (v.toList ++ []) μ' (d + 1) Q) := by
  rw [Xm_ent (n := 2) (loc := [.ref 68, .int x1]) (by decide +kernel) rfl]
  refine (R_pure0 (ins := .iload_n 1) (len := 1) (loc' := [.ref 68, .int x1]) (st' := [.int x1]) (by decide +kernel) (fun _ => rfl)).trans ?_
  refine (R_pure0 (ins := .i2l) (len := 1) (loc' := [.ref 68, .int x1]) (st' := [.long x1.toInt64]) (by decide +kernel) (fun _ => rfl)).trans ?_
  refine (R_lconst (n := 0) (v := 0) (by decide +kernel) (by decide +kernel)).trans ?_
  refine (R_ldc2 (i := 207) (v := 2) (by decide +kernel) (by decide +kernel)).trans ?_
  refine (R_static (i := 87) (f := 149) (kd := 2) (na := 3) (ml := 6) (As := [.long x1.toInt64, .long 0, .long 2]) (rest := []) (by decide +kernel) (by decide +kernel) (by decide) (by decide +kernel) rfl rfl (by decide +kernel) (Nat.le_of_ble_eq_true rfl)).trans ?_
  rfl
theorem s199_9 {L : Nat} {mi : Nat → Nat → Int32} {ml : Nat → Nat → Int64} {d : Nat} {Q : Option Value → xM → Prop} {x1 y : Int32} (h1 : ¬ (y = 0) → xin x1 3 = true) : X 199 9 [.ref 68, .int x1] [.int y] (SH L, mi, ml, MR) (d + 1) Q =
    if (y = 0) then (Q (some (.int (-1))) (SH L, mi, ml, MR)) else (if ((mi 80 x1.toNatClampNeg) = 0) then (Xm 152 [.ref 68, .int 1] (SH L, mi, ml, MR) d (fun v μ' => X 199 28 [.ref 68, .int x1] (v.toList ++ []) μ' (d + 1) Q)) else (Xm 188 [.ref 79, .int (616 * x1), .ref 77, .int 0, .int 15] (SH L, mi, ml, MR) d (fun v μ' => X 199 48 [.ref 68, .int x1] (v.toList ++ []) μ' (d + 1) Q))) := by
  refine (R_if_ne (off := 5) (t := 14) (by decide +kernel) (by decide +kernel)).trans (ite_congr rfl (fun c0 => ?_) (fun c0 => ?_))
  · refine (R_iconst (n := (-1)) (v := (-1)) (by decide +kernel) (by decide +kernel)).trans ?_
    exact R_ireturn (by decide +kernel) (by decide +kernel)
  · refine (R_pure0 (ins := .aload_n 0) (len := 1) (loc' := [.ref 68, .int x1]) (st' := [.ref 68]) (by decide +kernel) (fun _ => rfl)).trans ?_
    refine (R_gr (i := 43) (ci := 10) (k := 13) (n := 33) (b := 80) (by decide +kernel) (by decide +kernel) (by decide) rfl (SH_ref (by decide +kernel))).trans ?_
    refine (R_pure0 (ins := .iload_n 1) (len := 1) (loc' := [.ref 68, .int x1]) (st' := [.int x1, .ref 80]) (by decide +kernel) (fun _ => rfl)).trans ?_
    refine (R_baload (n := 3) (by decide +kernel) rfl (h1 c0)).trans ?_
    refine (R_if_ne (off := 9) (t := 29) (by decide +kernel) (by decide +kernel)).trans (ite_congr rfl (fun c1 => ?_) (fun c1 => ?_))
    · refine (R_pure0 (ins := .aload_n 0) (len := 1) (loc' := [.ref 68, .int x1]) (st' := [.ref 68]) (by decide +kernel) (fun _ => rfl)).trans ?_
      refine (R_iconst (n := 1) (v := 1) (by decide +kernel) (by decide +kernel)).trans ?_
      refine (R_virt (i := 97) (f := 152) (kd := 0) (na := 1) (ml := 2) (ci := 10) (n := 33) (b := 68) (As := [.int 1]) (rest := []) (by decide +kernel) (by decide +kernel) (by decide) (by decide +kernel) rfl (by decide +kernel) rfl rfl (by decide +kernel) (Nat.le_of_ble_eq_true rfl)).trans ?_
      rfl
    · refine (R_pure0 (ins := .aload_n 0) (len := 1) (loc' := [.ref 68, .int x1]) (st' := [.ref 68]) (by decide +kernel) (fun _ => rfl)).trans ?_
      refine (R_gr (i := 40) (ci := 10) (k := 12) (n := 33) (b := 79) (by decide +kernel) (by decide +kernel) (by decide) rfl (SH_ref (by decide +kernel))).trans ?_
      refine (R_sipush (n := 616) (v := 616) (by decide +kernel) (by decide +kernel)).trans ?_
      refine (R_pure0 (ins := .iload_n 1) (len := 1) (loc' := [.ref 68, .int x1]) (st' := [.int x1, .int 616, .ref 79]) (by decide +kernel) (fun _ => rfl)).trans ?_
      refine (R_pure0 (ins := .imul) (len := 1) (loc' := [.ref 68, .int x1]) (st' := [.int (616 * x1), .ref 79]) (by decide +kernel) (fun _ => rfl)).trans ?_
      refine (R_pure0 (ins := .aload_n 0) (len := 1) (loc' := [.ref 68, .int x1]) (st' := [.ref 68, .int (616 * x1), .ref 79]) (by decide +kernel) (fun _ => rfl)).trans ?_
      refine (R_gr (i := 34) (ci := 10) (k := 9) (n := 33) (b := 77) (by decide +kernel) (by decide +kernel) (by decide) rfl (SH_ref (by decide +kernel))).trans ?_
      refine (R_iconst (n := 0) (v := 0) (by decide +kernel) (by decide +kernel)).trans ?_
      refine (R_bipush (n := 15) (v := 15) (by decide +kernel) (by decide +kernel)).trans ?_
      refine (R_static (i := 184) (f := 188) (kd := 2) (na := 5) (ml := 6) (As := [.ref 79, .int (616 * x1), .ref 77, .int 0, .int 15]) (rest := []) (by decide +kernel) (by decide +kernel) (by decide) (by decide +kernel) rfl rfl (by decide +kernel) (Nat.le_of_ble_eq_true rfl)).trans ?_
      rfl
theorem s199_28 {L : Nat} {mi : Nat → Nat → Int32} {ml : Nat → Nat → Int64} {d : Nat} {Q : Option Value → xM → Prop} {x1 y : Int32} : X 199 28 [.ref 68, .int x1] [.int y] (SH L, mi, ml, MR) d Q =
    Q (some (.int y)) (SH L, mi, ml, MR) := by
  exact R_ireturn (by decide +kernel) (by decide +kernel)
theorem s199_48 {L : Nat} {mi : Nat → Nat → Int32} {ml : Nat → Nat → Int64} {d : Nat} {Q : Option Value → xM → Prop} {x1 : Int32} : X 199 48 [.ref 68, .int x1] [] (SH L, mi, ml, MR) (d + 1) Q =
    Xm 188 [.ref 79, .int ((616 * x1) + 15), .ref 78, .int 0, .int 600] (SH L, mi, ml, MR) d (fun v μ' => X 199 71 [.ref 68, .int x1] (v.toList ++ []) μ' (d + 1) Q) := by
  refine (R_pure0 (ins := .aload_n 0) (len := 1) (loc' := [.ref 68, .int x1]) (st' := [.ref 68]) (by decide +kernel) (fun _ => rfl)).trans ?_
  refine (R_gr (i := 40) (ci := 10) (k := 12) (n := 33) (b := 79) (by decide +kernel) (by decide +kernel) (by decide) rfl (SH_ref (by decide +kernel))).trans ?_
  refine (R_sipush (n := 616) (v := 616) (by decide +kernel) (by decide +kernel)).trans ?_
  refine (R_pure0 (ins := .iload_n 1) (len := 1) (loc' := [.ref 68, .int x1]) (st' := [.int x1, .int 616, .ref 79]) (by decide +kernel) (fun _ => rfl)).trans ?_
  refine (R_pure0 (ins := .imul) (len := 1) (loc' := [.ref 68, .int x1]) (st' := [.int (616 * x1), .ref 79]) (by decide +kernel) (fun _ => rfl)).trans ?_
  refine (R_bipush (n := 15) (v := 15) (by decide +kernel) (by decide +kernel)).trans ?_
  refine (R_pure0 (ins := .iadd) (len := 1) (loc' := [.ref 68, .int x1]) (st' := [.int ((616 * x1) + 15), .ref 79]) (by decide +kernel) (fun _ => rfl)).trans ?_
  refine (R_pure0 (ins := .aload_n 0) (len := 1) (loc' := [.ref 68, .int x1]) (st' := [.ref 68, .int ((616 * x1) + 15), .ref 79]) (by decide +kernel) (fun _ => rfl)).trans ?_
  refine (R_gr (i := 37) (ci := 10) (k := 11) (n := 33) (b := 78) (by decide +kernel) (by decide +kernel) (by decide) rfl (SH_ref (by decide +kernel))).trans ?_
  refine (R_iconst (n := 0) (v := 0) (by decide +kernel) (by decide +kernel)).trans ?_
  refine (R_sipush (n := 600) (v := 600) (by decide +kernel) (by decide +kernel)).trans ?_
  refine (R_static (i := 184) (f := 188) (kd := 2) (na := 5) (ml := 6) (As := [.ref 79, .int ((616 * x1) + 15), .ref 78, .int 0, .int 600]) (rest := []) (by decide +kernel) (by decide +kernel) (by decide) (by decide +kernel) rfl rfl (by decide +kernel) (Nat.le_of_ble_eq_true rfl)).trans ?_
  rfl
theorem s199_71 {L : Nat} {mi : Nat → Nat → Int32} {ml : Nat → Nat → Int64} {d : Nat} {Q : Option Value → xM → Prop} {x1 : Int32} (h1 : xin ((616 * x1) + 615) 1848 = true) : X 199 71 [.ref 68, .int x1] [] (SH L, mi, ml, MR) d Q =
    Q (some (.int ((xw mi 68 10 (mi 79 ((616 * x1) + 615).toNatClampNeg)) 68 10))) (SH L, (xw mi 68 10 (mi 79 ((616 * x1) + 615).toNatClampNeg)), ml, MR) := by
  refine (R_pure0 (ins := .aload_n 0) (len := 1) (loc' := [.ref 68, .int x1]) (st' := [.ref 68]) (by decide +kernel) (fun _ => rfl)).trans ?_
  refine (R_pure0 (ins := .aload_n 0) (len := 1) (loc' := [.ref 68, .int x1]) (st' := [.ref 68, .ref 68]) (by decide +kernel) (fun _ => rfl)).trans ?_
  refine (R_gr (i := 40) (ci := 10) (k := 12) (n := 33) (b := 79) (by decide +kernel) (by decide +kernel) (by decide) rfl (SH_ref (by decide +kernel))).trans ?_
  refine (R_sipush (n := 616) (v := 616) (by decide +kernel) (by decide +kernel)).trans ?_
  refine (R_pure0 (ins := .iload_n 1) (len := 1) (loc' := [.ref 68, .int x1]) (st' := [.int x1, .int 616, .ref 79, .ref 68]) (by decide +kernel) (fun _ => rfl)).trans ?_
  refine (R_pure0 (ins := .imul) (len := 1) (loc' := [.ref 68, .int x1]) (st' := [.int (616 * x1), .ref 79, .ref 68]) (by decide +kernel) (fun _ => rfl)).trans ?_
  refine (R_sipush (n := 615) (v := 615) (by decide +kernel) (by decide +kernel)).trans ?_
  refine (R_pure0 (ins := .iadd) (len := 1) (loc' := [.ref 68, .int x1]) (st' := [.int ((616 * x1) + 615), .ref 79, .ref 68]) (by decide +kernel) (fun _ => rfl)).trans ?_
  refine (R_iaload (kd := 100) (n := 1848) (by decide +kernel) rfl (by decide) (h1)).trans ?_
  refine (R_pi (i := 134) (ci := 10) (k := 10) (n := 33) (by decide +kernel) (by decide +kernel) (by decide) rfl).trans ?_
  refine (R_pure0 (ins := .aload_n 0) (len := 1) (loc' := [.ref 68, .int x1]) (st' := [.ref 68]) (by decide +kernel) (fun _ => rfl)).trans ?_
  refine (R_gi (i := 134) (ci := 10) (k := 10) (n := 33) (by decide +kernel) (by decide +kernel) (by decide) rfl).trans ?_
  exact R_ireturn (by decide +kernel) (by decide +kernel)
theorem s200 {L : Nat} {mi : Nat → Nat → Int32} {ml : Nat → Nat → Int64} {d : Nat} {Q : Option Value → xM → Prop} : Xm 200 [.ref 68] (SH L, mi, ml, MR) d Q =
    X 200 4 [.ref 68, .int 0, .int 0] [] (SH L, mi, ml, MR) d Q := by
  rw [Xm_ent (n := 3) (loc := [.ref 68, xmk, xmk]) (by decide +kernel) rfl]
  refine (R_iconst (n := 0) (v := 0) (by decide +kernel) (by decide +kernel)).trans ?_
  refine (R_pure0 (ins := .istore_n 1) (len := 1) (loc' := [.ref 68, .int 0, xmk]) (st' := []) (by decide +kernel) (fun _ => rfl)).trans ?_
  refine (R_iconst (n := 0) (v := 0) (by decide +kernel) (by decide +kernel)).trans ?_
  refine (R_pure0 (ins := .istore_n 2) (len := 1) (loc' := [.ref 68, .int 0, .int 0]) (st' := []) (by decide +kernel) (fun _ => rfl)).trans ?_
  rfl
theorem s200_4 {L : Nat} {mi : Nat → Nat → Int32} {ml : Nat → Nat → Int64} {d : Nat} {Q : Option Value → xM → Prop} {x1 x2 : Int32} : X 200 4 [.ref 68, .int x1, .int x2] [] (SH L, mi, ml, MR) (d + 1) Q =
    if (x2 < (mi 68 4)) then (Xm 183 [.ref 68, .int x2] (SH L, mi, ml, MR) d (fun v μ' => X 200 18 [.ref 68, .int x1, .int x2] (v.toList ++ [.int x1]) μ' (d + 1) Q)) else (Q (some (.int x1)) (SH L, mi, ml, MR)) := by
  refine (R_pure0 (ins := .iload_n 2) (len := 1) (loc' := [.ref 68, .int x1, .int x2]) (st' := [.int x2]) (by decide +kernel) (fun _ => rfl)).trans ?_
  refine (R_pure0 (ins := .aload_n 0) (len := 1) (loc' := [.ref 68, .int x1, .int x2]) (st' := [.ref 68, .int x2]) (by decide +kernel) (fun _ => rfl)).trans ?_
  refine (R_gi (i := 131) (ci := 10) (k := 4) (n := 33) (by decide +kernel) (by decide +kernel) (by decide) rfl).trans ?_
  refine (R_icmp_ge (off := 27) (t := 36) (by decide +kernel) (by decide +kernel)).trans (ite_congr rfl (fun c0 => ?_) (fun c0 => ?_))
  · refine (R_pure0 (ins := .iload_n 1) (len := 1) (loc' := [.ref 68, .int x1, .int x2]) (st' := [.int x1]) (by decide +kernel) (fun _ => rfl)).trans ?_
    refine (R_pure0 (ins := .aload_n 0) (len := 1) (loc' := [.ref 68, .int x1, .int x2]) (st' := [.ref 68, .int x1]) (by decide +kernel) (fun _ => rfl)).trans ?_
    refine (R_pure0 (ins := .iload_n 2) (len := 1) (loc' := [.ref 68, .int x1, .int x2]) (st' := [.int x2, .ref 68, .int x1]) (by decide +kernel) (fun _ => rfl)).trans ?_
    refine (R_virt (i := 194) (f := 183) (kd := 0) (na := 1) (ml := 2) (ci := 10) (n := 33) (b := 68) (As := [.int x2]) (rest := [.int x1]) (by decide +kernel) (by decide +kernel) (by decide) (by decide +kernel) rfl (by decide +kernel) rfl rfl (by decide +kernel) (Nat.le_of_ble_eq_true rfl)).trans ?_
    rfl
  · refine (R_pure0 (ins := .iload_n 1) (len := 1) (loc' := [.ref 68, .int x1, .int x2]) (st' := [.int x1]) (by decide +kernel) (fun _ => rfl)).trans ?_
    exact R_ireturn (by decide +kernel) (by decide +kernel)
theorem s200_18 {L : Nat} {mi : Nat → Nat → Int32} {ml : Nat → Nat → Int64} {d : Nat} {Q : Option Value → xM → Prop} {x1 x2 y z0 : Int32} : X 200 18 [.ref 68, .int x1, .int x2] [.int y, .int z0] (SH L, mi, ml, MR) d Q =
    if (y = 0) then (X 200 4 [.ref 68, .int (z0 ||| 0), .int (x2 + 1)] [] (SH L, mi, ml, MR) d Q) else (X 200 4 [.ref 68, .int (z0 ||| (1 <<< (x2 &&& 31))), .int (x2 + 1)] [] (SH L, mi, ml, MR) d Q) := by
  refine (R_if_eq (off := 9) (t := 27) (by decide +kernel) (by decide +kernel)).trans (ite_congr rfl (fun c0 => ?_) (fun c0 => ?_))
  · refine (R_iconst (n := 0) (v := 0) (by decide +kernel) (by decide +kernel)).trans ?_
    refine (R_pure0 (ins := .ior) (len := 1) (loc' := [.ref 68, .int x1, .int x2]) (st' := [.int (z0 ||| 0)]) (by decide +kernel) (fun _ => rfl)).trans ?_
    refine (R_pure0 (ins := .istore_n 1) (len := 1) (loc' := [.ref 68, .int (z0 ||| 0), .int x2]) (st' := []) (by decide +kernel) (fun _ => rfl)).trans ?_
    refine (R_iinc (k := 2) (n := 1) (x := x2) (v := (x2 + 1)) (loc' := [.ref 68, .int (z0 ||| 0), .int (x2 + 1)]) (by decide +kernel) rfl rfl rfl).trans ?_
    refine (R_goto (off := (-29)) (t := 4) (by decide +kernel) (by decide +kernel)).trans ?_
    rfl
  · refine (R_iconst (n := 1) (v := 1) (by decide +kernel) (by decide +kernel)).trans ?_
    refine (R_pure0 (ins := .iload_n 2) (len := 1) (loc' := [.ref 68, .int x1, .int x2]) (st' := [.int x2, .int 1, .int z0]) (by decide +kernel) (fun _ => rfl)).trans ?_
    refine (R_pure0 (ins := .ishl) (len := 1) (loc' := [.ref 68, .int x1, .int x2]) (st' := [.int (1 <<< (x2 &&& 31)), .int z0]) (by decide +kernel) (fun _ => rfl)).trans ?_
    refine (R_goto (off := 4) (t := 28) (by decide +kernel) (by decide +kernel)).trans ?_
    refine (R_pure0 (ins := .ior) (len := 1) (loc' := [.ref 68, .int x1, .int x2]) (st' := [.int (z0 ||| (1 <<< (x2 &&& 31)))]) (by decide +kernel) (fun _ => rfl)).trans ?_
    refine (R_pure0 (ins := .istore_n 1) (len := 1) (loc' := [.ref 68, .int (z0 ||| (1 <<< (x2 &&& 31))), .int x2]) (st' := []) (by decide +kernel) (fun _ => rfl)).trans ?_
    refine (R_iinc (k := 2) (n := 1) (x := x2) (v := (x2 + 1)) (loc' := [.ref 68, .int (z0 ||| (1 <<< (x2 &&& 31))), .int (x2 + 1)]) (by decide +kernel) rfl rfl rfl).trans ?_
    refine (R_goto (off := (-29)) (t := 4) (by decide +kernel) (by decide +kernel)).trans ?_
    rfl
theorem s201 {L : Nat} {mi : Nat → Nat → Int32} {ml : Nat → Nat → Int64} {d : Nat} {Q : Option Value → xM → Prop} {x1 : Int32} (h1 : xin (6 + x1) 15 = true) : Xm 201 [.ref 68, .int x1] (SH L, mi, ml, MR) (d + 1) Q =
    Xm 180 [.ref 68, .int x1, .int (mi 77 (6 + x1).toNatClampNeg)] (SH L, mi, ml, MR) d (fun v μ' => X 201 14 [.ref 68, .int x1] (v.toList ++ []) μ' (d + 1) Q) := by
  rw [Xm_ent (n := 2) (loc := [.ref 68, .int x1]) (by decide +kernel) rfl]
  refine (R_pure0 (ins := .aload_n 0) (len := 1) (loc' := [.ref 68, .int x1]) (st' := [.ref 68]) (by decide +kernel) (fun _ => rfl)).trans ?_
  refine (R_pure0 (ins := .iload_n 1) (len := 1) (loc' := [.ref 68, .int x1]) (st' := [.int x1, .ref 68]) (by decide +kernel) (fun _ => rfl)).trans ?_
  refine (R_pure0 (ins := .aload_n 0) (len := 1) (loc' := [.ref 68, .int x1]) (st' := [.ref 68, .int x1, .ref 68]) (by decide +kernel) (fun _ => rfl)).trans ?_
  refine (R_gr (i := 34) (ci := 10) (k := 9) (n := 33) (b := 77) (by decide +kernel) (by decide +kernel) (by decide) rfl (SH_ref (by decide +kernel))).trans ?_
  refine (R_bipush (n := 6) (v := 6) (by decide +kernel) (by decide +kernel)).trans ?_
  refine (R_pure0 (ins := .iload_n 1) (len := 1) (loc' := [.ref 68, .int x1]) (st' := [.int x1, .int 6, .ref 77, .int x1, .ref 68]) (by decide +kernel) (fun _ => rfl)).trans ?_
  refine (R_pure0 (ins := .iadd) (len := 1) (loc' := [.ref 68, .int x1]) (st' := [.int (6 + x1), .ref 77, .int x1, .ref 68]) (by decide +kernel) (fun _ => rfl)).trans ?_
  refine (R_iaload (kd := 100) (n := 15) (by decide +kernel) rfl (by decide) (h1)).trans ?_
  refine (R_virt (i := 178) (f := 180) (kd := 0) (na := 2) (ml := 3) (ci := 10) (n := 33) (b := 68) (As := [.int x1, .int (mi 77 (6 + x1).toNatClampNeg)]) (rest := []) (by decide +kernel) (by decide +kernel) (by decide) (by decide +kernel) rfl (by decide +kernel) rfl rfl (by decide +kernel) (Nat.le_of_ble_eq_true rfl)).trans ?_
  rfl
theorem s201_14 {L : Nat} {mi : Nat → Nat → Int32} {ml : Nat → Nat → Int64} {d : Nat} {Q : Option Value → xM → Prop} {x1 y : Int32} : X 201 14 [.ref 68, .int x1] [.int y] (SH L, mi, ml, MR) d Q =
    Q (some (.int y)) (SH L, mi, ml, MR) := by
  exact R_ireturn (by decide +kernel) (by decide +kernel)
theorem s202 {L : Nat} {mi : Nat → Nat → Int32} {ml : Nat → Nat → Int64} {d : Nat} {Q : Option Value → xM → Prop} : Xm 202 [.ref 68] (SH L, mi, ml, MR) (d + 1) Q =
    if ((mi 68 4) = 0) then (Q (some (.int (-4))) (SH L, mi, ml, MR)) else (Xm 200 [.ref 68] (SH L, mi, ml, MR) d (fun v μ' => X 202 14 [.ref 68, xmk, xmk, xmk] (v.toList ++ []) μ' (d + 1) Q)) := by
  rw [Xm_ent (n := 4) (loc := [.ref 68, xmk, xmk, xmk]) (by decide +kernel) rfl]
  refine (R_pure0 (ins := .aload_n 0) (len := 1) (loc' := [.ref 68, xmk, xmk, xmk]) (st' := [.ref 68]) (by decide +kernel) (fun _ => rfl)).trans ?_
  refine (R_gi (i := 131) (ci := 10) (k := 4) (n := 33) (by decide +kernel) (by decide +kernel) (by decide) rfl).trans ?_
  refine (R_if_ne (off := 6) (t := 10) (by decide +kernel) (by decide +kernel)).trans (ite_congr rfl (fun c0 => ?_) (fun c0 => ?_))
  · refine (R_bipush (n := (-4)) (v := (-4)) (by decide +kernel) (by decide +kernel)).trans ?_
    exact R_ireturn (by decide +kernel) (by decide +kernel)
  · refine (R_pure0 (ins := .aload_n 0) (len := 1) (loc' := [.ref 68, xmk, xmk, xmk]) (st' := [.ref 68]) (by decide +kernel) (fun _ => rfl)).trans ?_
    refine (R_virt (i := 209) (f := 200) (kd := 0) (na := 0) (ml := 3) (ci := 10) (n := 33) (b := 68) (As := []) (rest := []) (by decide +kernel) (by decide +kernel) (by decide) (by decide +kernel) rfl (by decide +kernel) rfl rfl (by decide +kernel) (Nat.le_of_ble_eq_true rfl)).trans ?_
    rfl
theorem s202_14 {L : Nat} {mi : Nat → Nat → Int32} {ml : Nat → Nat → Int64} {d : Nat} {Q : Option Value → xM → Prop} {y : Int32} : X 202 14 [.ref 68, xmk, xmk, xmk] [.int y] (SH L, mi, ml, MR) d Q =
    X 202 19 [.ref 68, .int y, .int 0, .int 0] [] (SH L, mi, ml, MR) d Q := by
  refine (R_pure0 (ins := .istore_n 1) (len := 1) (loc' := [.ref 68, .int y, xmk, xmk]) (st' := []) (by decide +kernel) (fun _ => rfl)).trans ?_
  refine (R_iconst (n := 0) (v := 0) (by decide +kernel) (by decide +kernel)).trans ?_
  refine (R_pure0 (ins := .istore_n 2) (len := 1) (loc' := [.ref 68, .int y, .int 0, xmk]) (st' := []) (by decide +kernel) (fun _ => rfl)).trans ?_
  refine (R_iconst (n := 0) (v := 0) (by decide +kernel) (by decide +kernel)).trans ?_
  refine (R_pure0 (ins := .istore_n 3) (len := 1) (loc' := [.ref 68, .int y, .int 0, .int 0]) (st' := []) (by decide +kernel) (fun _ => rfl)).trans ?_
  rfl
theorem s202_19 {L : Nat} {mi : Nat → Nat → Int32} {ml : Nat → Nat → Int64} {d : Nat} {Q : Option Value → xM → Prop} {x1 x2 x3 : Int32} : X 202 19 [.ref 68, .int x1, .int x2, .int x3] [] (SH L, mi, ml, MR) (d + 1) Q =
    if (x3 < (mi 68 4)) then (Xm 150 [.int x1, .int x3] (SH L, mi, ml, MR) d (fun v μ' => X 202 33 [.ref 68, .int x1, .int x2, .int x3] (v.toList ++ [.int x2]) μ' (d + 1) Q)) else (Xm 154 [.ref 68, .int x1, .int x2] (SH L, mi, ml, MR) d (fun v μ' => X 202 61 [.ref 68, .int x1, .int x2, .int x3] (v.toList ++ []) μ' (d + 1) Q)) := by
  refine (R_pure0 (ins := .iload_n 3) (len := 1) (loc' := [.ref 68, .int x1, .int x2, .int x3]) (st' := [.int x3]) (by decide +kernel) (fun _ => rfl)).trans ?_
  refine (R_pure0 (ins := .aload_n 0) (len := 1) (loc' := [.ref 68, .int x1, .int x2, .int x3]) (st' := [.ref 68, .int x3]) (by decide +kernel) (fun _ => rfl)).trans ?_
  refine (R_gi (i := 131) (ci := 10) (k := 4) (n := 33) (by decide +kernel) (by decide +kernel) (by decide) rfl).trans ?_
  refine (R_icmp_ge (off := 31) (t := 55) (by decide +kernel) (by decide +kernel)).trans (ite_congr rfl (fun c0 => ?_) (fun c0 => ?_))
  · refine (R_pure0 (ins := .iload_n 2) (len := 1) (loc' := [.ref 68, .int x1, .int x2, .int x3]) (st' := [.int x2]) (by decide +kernel) (fun _ => rfl)).trans ?_
    refine (R_pure0 (ins := .iload_n 1) (len := 1) (loc' := [.ref 68, .int x1, .int x2, .int x3]) (st' := [.int x1, .int x2]) (by decide +kernel) (fun _ => rfl)).trans ?_
    refine (R_pure0 (ins := .iload_n 3) (len := 1) (loc' := [.ref 68, .int x1, .int x2, .int x3]) (st' := [.int x3, .int x1, .int x2]) (by decide +kernel) (fun _ => rfl)).trans ?_
    refine (R_static (i := 156) (f := 150) (kd := 2) (na := 2) (ml := 2) (As := [.int x1, .int x3]) (rest := [.int x2]) (by decide +kernel) (by decide +kernel) (by decide) (by decide +kernel) rfl rfl (by decide +kernel) (Nat.le_of_ble_eq_true rfl)).trans ?_
    rfl
  · refine (R_pure0 (ins := .aload_n 0) (len := 1) (loc' := [.ref 68, .int x1, .int x2, .int x3]) (st' := [.ref 68]) (by decide +kernel) (fun _ => rfl)).trans ?_
    refine (R_pure0 (ins := .iload_n 1) (len := 1) (loc' := [.ref 68, .int x1, .int x2, .int x3]) (st' := [.int x1, .ref 68]) (by decide +kernel) (fun _ => rfl)).trans ?_
    refine (R_pure0 (ins := .iload_n 2) (len := 1) (loc' := [.ref 68, .int x1, .int x2, .int x3]) (st' := [.int x2, .int x1, .ref 68]) (by decide +kernel) (fun _ => rfl)).trans ?_
    refine (R_virt (i := 215) (f := 154) (kd := 0) (na := 2) (ml := 3) (ci := 10) (n := 33) (b := 68) (As := [.int x1, .int x2]) (rest := []) (by decide +kernel) (by decide +kernel) (by decide) (by decide +kernel) rfl (by decide +kernel) rfl rfl (by decide +kernel) (Nat.le_of_ble_eq_true rfl)).trans ?_
    rfl
theorem s202_33 {L : Nat} {mi : Nat → Nat → Int32} {ml : Nat → Nat → Int64} {d : Nat} {Q : Option Value → xM → Prop} {x1 x2 x3 y z0 : Int32} : X 202 33 [.ref 68, .int x1, .int x2, .int x3] [.int y, .int z0] (SH L, mi, ml, MR) (d + 1) Q =
    if (y = 0) then (X 202 19 [.ref 68, .int x1, .int (z0 ||| 0), .int (x3 + 1)] [] (SH L, mi, ml, MR) (d + 1) Q) else (Xm 201 [.ref 68, .int x3] (SH L, mi, ml, MR) d (fun v μ' => X 202 42 [.ref 68, .int x1, .int x2, .int x3] (v.toList ++ [.int 1, .int z0]) μ' (d + 1) Q)) := by
  refine (R_if_eq (off := 13) (t := 46) (by decide +kernel) (by decide +kernel)).trans (ite_congr rfl (fun c0 => ?_) (fun c0 => ?_))
  · refine (R_iconst (n := 0) (v := 0) (by decide +kernel) (by decide +kernel)).trans ?_
    refine (R_pure0 (ins := .ior) (len := 1) (loc' := [.ref 68, .int x1, .int x2, .int x3]) (st' := [.int (z0 ||| 0)]) (by decide +kernel) (fun _ => rfl)).trans ?_
    refine (R_pure0 (ins := .istore_n 2) (len := 1) (loc' := [.ref 68, .int x1, .int (z0 ||| 0), .int x3]) (st' := []) (by decide +kernel) (fun _ => rfl)).trans ?_
    refine (R_iinc (k := 3) (n := 1) (x := x3) (v := (x3 + 1)) (loc' := [.ref 68, .int x1, .int (z0 ||| 0), .int (x3 + 1)]) (by decide +kernel) rfl rfl rfl).trans ?_
    refine (R_goto (off := (-33)) (t := 19) (by decide +kernel) (by decide +kernel)).trans ?_
    rfl
  · refine (R_iconst (n := 1) (v := 1) (by decide +kernel) (by decide +kernel)).trans ?_
    refine (R_pure0 (ins := .aload_n 0) (len := 1) (loc' := [.ref 68, .int x1, .int x2, .int x3]) (st' := [.ref 68, .int 1, .int z0]) (by decide +kernel) (fun _ => rfl)).trans ?_
    refine (R_pure0 (ins := .iload_n 3) (len := 1) (loc' := [.ref 68, .int x1, .int x2, .int x3]) (st' := [.int x3, .ref 68, .int 1, .int z0]) (by decide +kernel) (fun _ => rfl)).trans ?_
    refine (R_virt (i := 212) (f := 201) (kd := 0) (na := 1) (ml := 2) (ci := 10) (n := 33) (b := 68) (As := [.int x3]) (rest := [.int 1, .int z0]) (by decide +kernel) (by decide +kernel) (by decide) (by decide +kernel) rfl (by decide +kernel) rfl rfl (by decide +kernel) (Nat.le_of_ble_eq_true rfl)).trans ?_
    rfl
theorem s202_61 {L : Nat} {mi : Nat → Nat → Int32} {ml : Nat → Nat → Int64} {d : Nat} {Q : Option Value → xM → Prop} {x1 x2 x3 y : Int32} : X 202 61 [.ref 68, .int x1, .int x2, .int x3] [.int y] (SH L, mi, ml, MR) d Q =
    Q (some (.int y)) (SH L, mi, ml, MR) := by
  exact R_ireturn (by decide +kernel) (by decide +kernel)
theorem s202_42 {L : Nat} {mi : Nat → Nat → Int32} {ml : Nat → Nat → Int64} {d : Nat} {Q : Option Value → xM → Prop} {x1 x2 x3 y z0 z1 : Int32} : X 202 42 [.ref 68, .int x1, .int x2, .int x3] [.int y, .int z0, .int z1] (SH L, mi, ml, MR) d Q =
    X 202 19 [.ref 68, .int x1, .int (z1 ||| (z0 <<< (y &&& 31))), .int (x3 + 1)] [] (SH L, mi, ml, MR) d Q := by
  refine (R_pure0 (ins := .ishl) (len := 1) (loc' := [.ref 68, .int x1, .int x2, .int x3]) (st' := [.int (z0 <<< (y &&& 31)), .int z1]) (by decide +kernel) (fun _ => rfl)).trans ?_
  refine (R_goto (off := 4) (t := 47) (by decide +kernel) (by decide +kernel)).trans ?_
  refine (R_pure0 (ins := .ior) (len := 1) (loc' := [.ref 68, .int x1, .int x2, .int x3]) (st' := [.int (z1 ||| (z0 <<< (y &&& 31)))]) (by decide +kernel) (fun _ => rfl)).trans ?_
  refine (R_pure0 (ins := .istore_n 2) (len := 1) (loc' := [.ref 68, .int x1, .int (z1 ||| (z0 <<< (y &&& 31))), .int x3]) (st' := []) (by decide +kernel) (fun _ => rfl)).trans ?_
  refine (R_iinc (k := 3) (n := 1) (x := x3) (v := (x3 + 1)) (loc' := [.ref 68, .int x1, .int (z1 ||| (z0 <<< (y &&& 31))), .int (x3 + 1)]) (by decide +kernel) rfl rfl rfl).trans ?_
  refine (R_goto (off := (-33)) (t := 19) (by decide +kernel) (by decide +kernel)).trans ?_
  rfl
theorem s203 {L : Nat} {mi : Nat → Nat → Int32} {ml : Nat → Nat → Int64} {d : Nat} {Q : Option Value → xM → Prop} {x1 x2 x3 x4 x5 : Int32} : Xm 203 [.ref 68, .int x1, .int x2, .int x3, .int x4, .int x5] (SH L, mi, ml, MR) d Q =
    X 203 4 [.ref 68, .int x1, .int x2, .int x3, .int x4, .int x5, .int x4] [] (SH L, mi, ml, MR) d Q := by
  rw [Xm_ent (n := 7) (loc := [.ref 68, .int x1, .int x2, .int x3, .int x4, .int x5, xmk]) (by decide +kernel) rfl]
  refine (R_pure0 (ins := .iload 4) (len := 2) (loc' := [.ref 68, .int x1, .int x2, .int x3, .int x4, .int x5, xmk]) (st' := [.int x4]) (by decide +kernel) (fun _ => rfl)).trans ?_
  refine (R_pure0 (ins := .istore 6) (len := 2) (loc' := [.ref 68, .int x1, .int x2, .int x3, .int x4, .int x5, .int x4]) (st' := []) (by decide +kernel) (fun _ => rfl)).trans ?_
  rfl
theorem s203_4 {L : Nat} {mi : Nat → Nat → Int32} {ml : Nat → Nat → Int64} {d : Nat} {Q : Option Value → xM → Prop} {x1 x2 x3 x4 x5 x6 : Int32} : X 203 4 [.ref 68, .int x1, .int x2, .int x3, .int x4, .int x5, .int x6] [] (SH L, mi, ml, MR) (d + 1) Q =
    if (x5 < x6) then (Q (some (.int 1000000)) (SH L, mi, ml, MR)) else (Xm 181 [.ref 68, .int x1, .int x2, .int x3, .int ((mi 77 (13 : Int32).toNatClampNeg) + x6)] (SH L, mi, ml, MR) d (fun v μ' => X 203 28 [.ref 68, .int x1, .int x2, .int x3, .int x4, .int x5, .int x6] (v.toList ++ []) μ' (d + 1) Q)) := by
  refine (R_pure0 (ins := .iload 6) (len := 2) (loc' := [.ref 68, .int x1, .int x2, .int x3, .int x4, .int x5, .int x6]) (st' := [.int x6]) (by decide +kernel) (fun _ => rfl)).trans ?_
  refine (R_pure0 (ins := .iload 5) (len := 2) (loc' := [.ref 68, .int x1, .int x2, .int x3, .int x4, .int x5, .int x6]) (st' := [.int x5, .int x6]) (by decide +kernel) (fun _ => rfl)).trans ?_
  refine (R_icmp_gt (off := 32) (t := 40) (by decide +kernel) (by decide +kernel)).trans (ite_congr rfl (fun c0 => ?_) (fun c0 => ?_))
  · refine (R_ldc (i := 218) (v := 1000000) (by decide +kernel) (by decide +kernel)).trans ?_
    exact R_ireturn (by decide +kernel) (by decide +kernel)
  · refine (R_pure0 (ins := .aload_n 0) (len := 1) (loc' := [.ref 68, .int x1, .int x2, .int x3, .int x4, .int x5, .int x6]) (st' := [.ref 68]) (by decide +kernel) (fun _ => rfl)).trans ?_
    refine (R_pure0 (ins := .iload_n 1) (len := 1) (loc' := [.ref 68, .int x1, .int x2, .int x3, .int x4, .int x5, .int x6]) (st' := [.int x1, .ref 68]) (by decide +kernel) (fun _ => rfl)).trans ?_
    refine (R_pure0 (ins := .iload_n 2) (len := 1) (loc' := [.ref 68, .int x1, .int x2, .int x3, .int x4, .int x5, .int x6]) (st' := [.int x2, .int x1, .ref 68]) (by decide +kernel) (fun _ => rfl)).trans ?_
    refine (R_pure0 (ins := .iload_n 3) (len := 1) (loc' := [.ref 68, .int x1, .int x2, .int x3, .int x4, .int x5, .int x6]) (st' := [.int x3, .int x2, .int x1, .ref 68]) (by decide +kernel) (fun _ => rfl)).trans ?_
    refine (R_pure0 (ins := .aload_n 0) (len := 1) (loc' := [.ref 68, .int x1, .int x2, .int x3, .int x4, .int x5, .int x6]) (st' := [.ref 68, .int x3, .int x2, .int x1, .ref 68]) (by decide +kernel) (fun _ => rfl)).trans ?_
    refine (R_gr (i := 34) (ci := 10) (k := 9) (n := 33) (b := 77) (by decide +kernel) (by decide +kernel) (by decide) rfl (SH_ref (by decide +kernel))).trans ?_
    refine (R_bipush (n := 13) (v := 13) (by decide +kernel) (by decide +kernel)).trans ?_
    refine (R_iaload (kd := 100) (n := 15) (by decide +kernel) rfl (by decide) (by decide)).trans ?_
    refine (R_pure0 (ins := .iload 6) (len := 2) (loc' := [.ref 68, .int x1, .int x2, .int x3, .int x4, .int x5, .int x6]) (st' := [.int x6, .int (mi 77 (13 : Int32).toNatClampNeg), .int x3, .int x2, .int x1, .ref 68]) (by decide +kernel) (fun _ => rfl)).trans ?_
    refine (R_pure0 (ins := .iadd) (len := 1) (loc' := [.ref 68, .int x1, .int x2, .int x3, .int x4, .int x5, .int x6]) (st' := [.int ((mi 77 (13 : Int32).toNatClampNeg) + x6), .int x3, .int x2, .int x1, .ref 68]) (by decide +kernel) (fun _ => rfl)).trans ?_
    refine (R_virt (i := 159) (f := 181) (kd := 0) (na := 4) (ml := 5) (ci := 10) (n := 33) (b := 68) (As := [.int x1, .int x2, .int x3, .int ((mi 77 (13 : Int32).toNatClampNeg) + x6)]) (rest := []) (by decide +kernel) (by decide +kernel) (by decide) (by decide +kernel) rfl (by decide +kernel) rfl rfl (by decide +kernel) (Nat.le_of_ble_eq_true rfl)).trans ?_
    rfl
theorem s203_28 {L : Nat} {mi : Nat → Nat → Int32} {ml : Nat → Nat → Int64} {d : Nat} {Q : Option Value → xM → Prop} {x1 x2 x3 x4 x5 x6 y : Int32} : X 203 28 [.ref 68, .int x1, .int x2, .int x3, .int x4, .int x5, .int x6] [.int y] (SH L, mi, ml, MR) d Q =
    if (y = 0) then (X 203 4 [.ref 68, .int x1, .int x2, .int x3, .int x4, .int x5, .int (x6 + 1)] [] (SH L, mi, ml, MR) d Q) else (Q (some (.int x6)) (SH L, mi, ml, MR)) := by
  refine (R_if_eq (off := 6) (t := 34) (by decide +kernel) (by decide +kernel)).trans (ite_congr rfl (fun c0 => ?_) (fun c0 => ?_))
  · refine (R_iinc (k := 6) (n := 1) (x := x6) (v := (x6 + 1)) (loc' := [.ref 68, .int x1, .int x2, .int x3, .int x4, .int x5, .int (x6 + 1)]) (by decide +kernel) rfl rfl rfl).trans ?_
    refine (R_goto (off := (-33)) (t := 4) (by decide +kernel) (by decide +kernel)).trans ?_
    rfl
  · refine (R_pure0 (ins := .iload 6) (len := 2) (loc' := [.ref 68, .int x1, .int x2, .int x3, .int x4, .int x5, .int x6]) (st' := [.int x6]) (by decide +kernel) (fun _ => rfl)).trans ?_
    exact R_ireturn (by decide +kernel) (by decide +kernel)
theorem s204 {L : Nat} {mi : Nat → Nat → Int32} {ml : Nat → Nat → Int64} {d : Nat} {Q : Option Value → xM → Prop} {x1 x2 : Int32} : Xm 204 [.ref 68, .int x1, .int x2] (SH L, mi, ml, MR) (d + 1) Q =
    Xm 172 [.ref 68, .int x1] (SH L, mi, ml, MR) d (fun v μ' => X 204 5 [.ref 68, .int x1, .int x2, xmk] (v.toList ++ []) μ' (d + 1) Q) := by
  rw [Xm_ent (n := 4) (loc := [.ref 68, .int x1, .int x2, xmk]) (by decide +kernel) rfl]
  refine (R_pure0 (ins := .aload_n 0) (len := 1) (loc' := [.ref 68, .int x1, .int x2, xmk]) (st' := [.ref 68]) (by decide +kernel) (fun _ => rfl)).trans ?_
  refine (R_pure0 (ins := .iload_n 1) (len := 1) (loc' := [.ref 68, .int x1, .int x2, xmk]) (st' := [.int x1, .ref 68]) (by decide +kernel) (fun _ => rfl)).trans ?_
  refine (R_virt (i := 169) (f := 172) (kd := 0) (na := 1) (ml := 2) (ci := 10) (n := 33) (b := 68) (As := [.int x1]) (rest := []) (by decide +kernel) (by decide +kernel) (by decide) (by decide +kernel) rfl (by decide +kernel) rfl rfl (by decide +kernel) (Nat.le_of_ble_eq_true rfl)).trans ?_
  rfl
theorem s204_5 {L : Nat} {mi : Nat → Nat → Int32} {ml : Nat → Nat → Int64} {d : Nat} {Q : Option Value → xM → Prop} {x1 x2 y : Int32} : X 204 5 [.ref 68, .int x1, .int x2, xmk] [.int y] (SH L, mi, ml, MR) (d + 1) Q =
    if (y = 0) then (Q (some (.int (-1))) (SH L, mi, ml, MR)) else (Xm 173 [.int x2] (SH L, mi, ml, MR) d (fun v μ' => X 204 12 [.ref 68, .int x1, .int x2, xmk] (v.toList ++ []) μ' (d + 1) Q)) := by
  refine (R_if_eq (off := 10) (t := 15) (by decide +kernel) (by decide +kernel)).trans (ite_congr rfl (fun c0 => ?_) (fun c0 => ?_))
  · refine (R_iconst (n := (-1)) (v := (-1)) (by decide +kernel) (by decide +kernel)).trans ?_
    exact R_ireturn (by decide +kernel) (by decide +kernel)
  · refine (R_pure0 (ins := .iload_n 2) (len := 1) (loc' := [.ref 68, .int x1, .int x2, xmk]) (st' := [.int x2]) (by decide +kernel) (fun _ => rfl)).trans ?_
    refine (R_static (i := 181) (f := 173) (kd := 2) (na := 1) (ml := 1) (As := [.int x2]) (rest := []) (by decide +kernel) (by decide +kernel) (by decide) (by decide +kernel) rfl rfl (by decide +kernel) (Nat.le_of_ble_eq_true rfl)).trans ?_
    rfl
theorem s204_12 {L : Nat} {mi : Nat → Nat → Int32} {ml : Nat → Nat → Int64} {d : Nat} {Q : Option Value → xM → Prop} {x1 x2 y : Int32} (h1 : ¬ (y = 0) → xin (0 + x1) 15 = true) : X 204 12 [.ref 68, .int x1, .int x2, xmk] [.int y] (SH L, mi, ml, MR) (d + 1) Q =
    if (y = 0) then (Q (some (.int (-1))) (SH L, mi, ml, MR)) else (Xm 203 [.ref 68, .int x1, .int x2, .int (mi 77 (0 + x1).toNatClampNeg), .int 0, .int 99] (SH L, mi, ml, MR) d (fun v μ' => X 204 34 [.ref 68, .int x1, .int x2, xmk] (v.toList ++ []) μ' (d + 1) Q)) := by
  refine (R_if_ne (off := 5) (t := 17) (by decide +kernel) (by decide +kernel)).trans (ite_congr rfl (fun c0 => ?_) (fun c0 => ?_))
  · refine (R_iconst (n := (-1)) (v := (-1)) (by decide +kernel) (by decide +kernel)).trans ?_
    exact R_ireturn (by decide +kernel) (by decide +kernel)
  · refine (R_pure0 (ins := .aload_n 0) (len := 1) (loc' := [.ref 68, .int x1, .int x2, xmk]) (st' := [.ref 68]) (by decide +kernel) (fun _ => rfl)).trans ?_
    refine (R_pure0 (ins := .iload_n 1) (len := 1) (loc' := [.ref 68, .int x1, .int x2, xmk]) (st' := [.int x1, .ref 68]) (by decide +kernel) (fun _ => rfl)).trans ?_
    refine (R_pure0 (ins := .iload_n 2) (len := 1) (loc' := [.ref 68, .int x1, .int x2, xmk]) (st' := [.int x2, .int x1, .ref 68]) (by decide +kernel) (fun _ => rfl)).trans ?_
    refine (R_pure0 (ins := .aload_n 0) (len := 1) (loc' := [.ref 68, .int x1, .int x2, xmk]) (st' := [.ref 68, .int x2, .int x1, .ref 68]) (by decide +kernel) (fun _ => rfl)).trans ?_
    refine (R_gr (i := 34) (ci := 10) (k := 9) (n := 33) (b := 77) (by decide +kernel) (by decide +kernel) (by decide) rfl (SH_ref (by decide +kernel))).trans ?_
    refine (R_iconst (n := 0) (v := 0) (by decide +kernel) (by decide +kernel)).trans ?_
    refine (R_pure0 (ins := .iload_n 1) (len := 1) (loc' := [.ref 68, .int x1, .int x2, xmk]) (st' := [.int x1, .int 0, .ref 77, .int x2, .int x1, .ref 68]) (by decide +kernel) (fun _ => rfl)).trans ?_
    refine (R_pure0 (ins := .iadd) (len := 1) (loc' := [.ref 68, .int x1, .int x2, xmk]) (st' := [.int (0 + x1), .ref 77, .int x2, .int x1, .ref 68]) (by decide +kernel) (fun _ => rfl)).trans ?_
    refine (R_iaload (kd := 100) (n := 15) (by decide +kernel) rfl (by decide) (h1 c0)).trans ?_
    refine (R_iconst (n := 0) (v := 0) (by decide +kernel) (by decide +kernel)).trans ?_
    refine (R_bipush (n := 99) (v := 99) (by decide +kernel) (by decide +kernel)).trans ?_
    refine (R_virt (i := 219) (f := 203) (kd := 0) (na := 5) (ml := 7) (ci := 10) (n := 33) (b := 68) (As := [.int x1, .int x2, .int (mi 77 (0 + x1).toNatClampNeg), .int 0, .int 99]) (rest := []) (by decide +kernel) (by decide +kernel) (by decide) (by decide +kernel) rfl (by decide +kernel) rfl rfl (by decide +kernel) (Nat.le_of_ble_eq_true rfl)).trans ?_
    rfl
theorem s204_34 {L : Nat} {mi : Nat → Nat → Int32} {ml : Nat → Nat → Int64} {d : Nat} {Q : Option Value → xM → Prop} {x1 x2 y : Int32} : X 204 34 [.ref 68, .int x1, .int x2, xmk] [.int y] (SH L, mi, ml, MR) d Q =
    if (y = 1000000) then (Q (some (.int (-9))) (SH L, mi, ml, MR)) else (Q (some (.int y)) (SH L, mi, ml, MR)) := by
  refine (R_pure0 (ins := .istore_n 3) (len := 1) (loc' := [.ref 68, .int x1, .int x2, .int y]) (st' := []) (by decide +kernel) (fun _ => rfl)).trans ?_
  refine (R_pure0 (ins := .iload_n 3) (len := 1) (loc' := [.ref 68, .int x1, .int x2, .int y]) (st' := [.int y]) (by decide +kernel) (fun _ => rfl)).trans ?_
  refine (R_ldc (i := 218) (v := 1000000) (by decide +kernel) (by decide +kernel)).trans ?_
  refine (R_icmp_ne (off := 8) (t := 46) (by decide +kernel) (by decide +kernel)).trans (ite_congr rfl (fun c0 => ?_) (fun c0 => ?_))
  · refine (R_bipush (n := (-9)) (v := (-9)) (by decide +kernel) (by decide +kernel)).trans ?_
    refine (R_goto (off := 4) (t := 47) (by decide +kernel) (by decide +kernel)).trans ?_
    exact R_ireturn (by decide +kernel) (by decide +kernel)
  · refine (R_pure0 (ins := .iload_n 3) (len := 1) (loc' := [.ref 68, .int x1, .int x2, .int y]) (st' := [.int y]) (by decide +kernel) (fun _ => rfl)).trans ?_
    exact R_ireturn (by decide +kernel) (by decide +kernel)
theorem s205 {L : Nat} {mi : Nat → Nat → Int32} {ml : Nat → Nat → Int64} {d : Nat} {Q : Option Value → xM → Prop} {x1 x2 x3 : Int32} : Xm 205 [.ref 68, .int x1, .int x2, .int x3] (SH L, mi, ml, MR) (d + 1) Q =
    Xm 172 [.ref 68, .int x1] (SH L, mi, ml, MR) d (fun v μ' => X 205 5 [.ref 68, .int x1, .int x2, .int x3, xmk] (v.toList ++ []) μ' (d + 1) Q) := by
  rw [Xm_ent (n := 5) (loc := [.ref 68, .int x1, .int x2, .int x3, xmk]) (by decide +kernel) rfl]
  refine (R_pure0 (ins := .aload_n 0) (len := 1) (loc' := [.ref 68, .int x1, .int x2, .int x3, xmk]) (st' := [.ref 68]) (by decide +kernel) (fun _ => rfl)).trans ?_
  refine (R_pure0 (ins := .iload_n 1) (len := 1) (loc' := [.ref 68, .int x1, .int x2, .int x3, xmk]) (st' := [.int x1, .ref 68]) (by decide +kernel) (fun _ => rfl)).trans ?_
  refine (R_virt (i := 169) (f := 172) (kd := 0) (na := 1) (ml := 2) (ci := 10) (n := 33) (b := 68) (As := [.int x1]) (rest := []) (by decide +kernel) (by decide +kernel) (by decide) (by decide +kernel) rfl (by decide +kernel) rfl rfl (by decide +kernel) (Nat.le_of_ble_eq_true rfl)).trans ?_
  rfl
theorem s205_5 {L : Nat} {mi : Nat → Nat → Int32} {ml : Nat → Nat → Int64} {d : Nat} {Q : Option Value → xM → Prop} {x1 x2 x3 y : Int32} : X 205 5 [.ref 68, .int x1, .int x2, .int x3, xmk] [.int y] (SH L, mi, ml, MR) (d + 1) Q =
    if (y = 0) then (Q (some (.int (-1))) (SH L, mi, ml, MR)) else (Xm 173 [.int x2] (SH L, mi, ml, MR) d (fun v μ' => X 205 12 [.ref 68, .int x1, .int x2, .int x3, xmk] (v.toList ++ []) μ' (d + 1) Q)) := by
  refine (R_if_eq (off := 22) (t := 27) (by decide +kernel) (by decide +kernel)).trans (ite_congr rfl (fun c0 => ?_) (fun c0 => ?_))
  · refine (R_iconst (n := (-1)) (v := (-1)) (by decide +kernel) (by decide +kernel)).trans ?_
    exact R_ireturn (by decide +kernel) (by decide +kernel)
  · refine (R_pure0 (ins := .iload_n 2) (len := 1) (loc' := [.ref 68, .int x1, .int x2, .int x3, xmk]) (st' := [.int x2]) (by decide +kernel) (fun _ => rfl)).trans ?_
    refine (R_static (i := 181) (f := 173) (kd := 2) (na := 1) (ml := 1) (As := [.int x2]) (rest := []) (by decide +kernel) (by decide +kernel) (by decide) (by decide +kernel) rfl rfl (by decide +kernel) (Nat.le_of_ble_eq_true rfl)).trans ?_
    rfl
theorem s205_12 {L : Nat} {mi : Nat → Nat → Int32} {ml : Nat → Nat → Int64} {d : Nat} {Q : Option Value → xM → Prop} {x1 x2 x3 y : Int32} : X 205 12 [.ref 68, .int x1, .int x2, .int x3, xmk] [.int y] (SH L, mi, ml, MR) (d + 1) Q =
    if (y = 0) then (Q (some (.int (-1))) (SH L, mi, ml, MR)) else (Xm 149 [.long x3.toInt64, .long 0, .long 40] (SH L, mi, ml, MR) d (fun v μ' => X 205 24 [.ref 68, .int x1, .int x2, .int x3, xmk] (v.toList ++ []) μ' (d + 1) Q)) := by
  refine (R_if_eq (off := 15) (t := 27) (by decide +kernel) (by decide +kernel)).trans (ite_congr rfl (fun c0 => ?_) (fun c0 => ?_))
  · refine (R_iconst (n := (-1)) (v := (-1)) (by decide +kernel) (by decide +kernel)).trans ?_
    exact R_ireturn (by decide +kernel) (by decide +kernel)
  · refine (R_pure0 (ins := .iload_n 3) (len := 1) (loc' := [.ref 68, .int x1, .int x2, .int x3, xmk]) (st' := [.int x3]) (by decide +kernel) (fun _ => rfl)).trans ?_
    refine (R_pure0 (ins := .i2l) (len := 1) (loc' := [.ref 68, .int x1, .int x2, .int x3, xmk]) (st' := [.long x3.toInt64]) (by decide +kernel) (fun _ => rfl)).trans ?_
    refine (R_lconst (n := 0) (v := 0) (by decide +kernel) (by decide +kernel)).trans ?_
    refine (R_ldc2 (i := 223) (v := 40) (by decide +kernel) (by decide +kernel)).trans ?_
    refine (R_static (i := 87) (f := 149) (kd := 2) (na := 3) (ml := 6) (As := [.long x3.toInt64, .long 0, .long 40]) (rest := []) (by decide +kernel) (by decide +kernel) (by decide) (by decide +kernel) rfl rfl (by decide +kernel) (Nat.le_of_ble_eq_true rfl)).trans ?_
    rfl
theorem s205_24 {L : Nat} {mi : Nat → Nat → Int32} {ml : Nat → Nat → Int64} {d : Nat} {Q : Option Value → xM → Prop} {x1 x2 x3 y : Int32} : X 205 24 [.ref 68, .int x1, .int x2, .int x3, xmk] [.int y] (SH L, mi, ml, MR) d Q =
    if (y = 0) then (Q (some (.int (-1))) (SH L, mi, ml, MR)) else (X 205 32 [.ref 68, .int x1, .int x2, .int x3, .int 0] [] (SH L, mi, ml, MR) d Q) := by
  refine (R_if_ne (off := 5) (t := 29) (by decide +kernel) (by decide +kernel)).trans (ite_congr rfl (fun c0 => ?_) (fun c0 => ?_))
  · refine (R_iconst (n := (-1)) (v := (-1)) (by decide +kernel) (by decide +kernel)).trans ?_
    exact R_ireturn (by decide +kernel) (by decide +kernel)
  · refine (R_iconst (n := 0) (v := 0) (by decide +kernel) (by decide +kernel)).trans ?_
    refine (R_pure0 (ins := .istore 4) (len := 2) (loc' := [.ref 68, .int x1, .int x2, .int x3, .int 0]) (st' := []) (by decide +kernel) (fun _ => rfl)).trans ?_
    rfl
theorem s205_32 {L : Nat} {mi : Nat → Nat → Int32} {ml : Nat → Nat → Int64} {d : Nat} {Q : Option Value → xM → Prop} {x1 x2 x3 x4 : Int32} (h1 : xin (0 + x1) 15 = true) (h2 : (((mi 77 (0 + x1).toNatClampNeg) + x4) < 10) → xin (0 + x1) 15 = true) : X 205 32 [.ref 68, .int x1, .int x2, .int x3, .int x4] [] (SH L, mi, ml, MR) (d + 1) Q =
    if (((mi 77 (0 + x1).toNatClampNeg) + x4) < 10) then (Xm 203 [.ref 68, .int x1, .int x2, .int ((mi 77 (0 + x1).toNatClampNeg) + x4), .int 0, .int x3] (SH L, mi, ml, MR) d (fun v μ' => X 205 67 [.ref 68, .int x1, .int x2, .int x3, .int x4] (v.toList ++ []) μ' (d + 1) Q)) else (Q (some (.int (-9))) (SH L, mi, ml, MR)) := by
  refine (R_pure0 (ins := .aload_n 0) (len := 1) (loc' := [.ref 68, .int x1, .int x2, .int x3, .int x4]) (st' := [.ref 68]) (by decide +kernel) (fun _ => rfl)).trans ?_
  refine (R_gr (i := 34) (ci := 10) (k := 9) (n := 33) (b := 77) (by decide +kernel) (by decide +kernel) (by decide) rfl (SH_ref (by decide +kernel))).trans ?_
  refine (R_iconst (n := 0) (v := 0) (by decide +kernel) (by decide +kernel)).trans ?_
  refine (R_pure0 (ins := .iload_n 1) (len := 1) (loc' := [.ref 68, .int x1, .int x2, .int x3, .int x4]) (st' := [.int x1, .int 0, .ref 77]) (by decide +kernel) (fun _ => rfl)).trans ?_
  refine (R_pure0 (ins := .iadd) (len := 1) (loc' := [.ref 68, .int x1, .int x2, .int x3, .int x4]) (st' := [.int (0 + x1), .ref 77]) (by decide +kernel) (fun _ => rfl)).trans ?_
  refine (R_iaload (kd := 100) (n := 15) (by decide +kernel) rfl (by decide) (h1)).trans ?_
  refine (R_pure0 (ins := .iload 4) (len := 2) (loc' := [.ref 68, .int x1, .int x2, .int x3, .int x4]) (st' := [.int x4, .int (mi 77 (0 + x1).toNatClampNeg)]) (by decide +kernel) (fun _ => rfl)).trans ?_
  refine (R_pure0 (ins := .iadd) (len := 1) (loc' := [.ref 68, .int x1, .int x2, .int x3, .int x4]) (st' := [.int ((mi 77 (0 + x1).toNatClampNeg) + x4)]) (by decide +kernel) (fun _ => rfl)).trans ?_
  refine (R_bipush (n := 10) (v := 10) (by decide +kernel) (by decide +kernel)).trans ?_
  refine (R_icmp_ge (off := 36) (t := 81) (by decide +kernel) (by decide +kernel)).trans (ite_congr rfl (fun c0 => ?_) (fun c0 => ?_))
  · refine (R_pure0 (ins := .aload_n 0) (len := 1) (loc' := [.ref 68, .int x1, .int x2, .int x3, .int x4]) (st' := [.ref 68]) (by decide +kernel) (fun _ => rfl)).trans ?_
    refine (R_pure0 (ins := .iload_n 1) (len := 1) (loc' := [.ref 68, .int x1, .int x2, .int x3, .int x4]) (st' := [.int x1, .ref 68]) (by decide +kernel) (fun _ => rfl)).trans ?_
    refine (R_pure0 (ins := .iload_n 2) (len := 1) (loc' := [.ref 68, .int x1, .int x2, .int x3, .int x4]) (st' := [.int x2, .int x1, .ref 68]) (by decide +kernel) (fun _ => rfl)).trans ?_
    refine (R_pure0 (ins := .aload_n 0) (len := 1) (loc' := [.ref 68, .int x1, .int x2, .int x3, .int x4]) (st' := [.ref 68, .int x2, .int x1, .ref 68]) (by decide +kernel) (fun _ => rfl)).trans ?_
    refine (R_gr (i := 34) (ci := 10) (k := 9) (n := 33) (b := 77) (by decide +kernel) (by decide +kernel) (by decide) rfl (SH_ref (by decide +kernel))).trans ?_
    refine (R_iconst (n := 0) (v := 0) (by decide +kernel) (by decide +kernel)).trans ?_
    refine (R_pure0 (ins := .iload_n 1) (len := 1) (loc' := [.ref 68, .int x1, .int x2, .int x3, .int x4]) (st' := [.int x1, .int 0, .ref 77, .int x2, .int x1, .ref 68]) (by decide +kernel) (fun _ => rfl)).trans ?_
    refine (R_pure0 (ins := .iadd) (len := 1) (loc' := [.ref 68, .int x1, .int x2, .int x3, .int x4]) (st' := [.int (0 + x1), .ref 77, .int x2, .int x1, .ref 68]) (by decide +kernel) (fun _ => rfl)).trans ?_
    refine (R_iaload (kd := 100) (n := 15) (by decide +kernel) rfl (by decide) (h2 c0)).trans ?_
    refine (R_pure0 (ins := .iload 4) (len := 2) (loc' := [.ref 68, .int x1, .int x2, .int x3, .int x4]) (st' := [.int x4, .int (mi 77 (0 + x1).toNatClampNeg), .int x2, .int x1, .ref 68]) (by decide +kernel) (fun _ => rfl)).trans ?_
    refine (R_pure0 (ins := .iadd) (len := 1) (loc' := [.ref 68, .int x1, .int x2, .int x3, .int x4]) (st' := [.int ((mi 77 (0 + x1).toNatClampNeg) + x4), .int x2, .int x1, .ref 68]) (by decide +kernel) (fun _ => rfl)).trans ?_
    refine (R_iconst (n := 0) (v := 0) (by decide +kernel) (by decide +kernel)).trans ?_
    refine (R_pure0 (ins := .iload_n 3) (len := 1) (loc' := [.ref 68, .int x1, .int x2, .int x3, .int x4]) (st' := [.int x3, .int 0, .int ((mi 77 (0 + x1).toNatClampNeg) + x4), .int x2, .int x1, .ref 68]) (by decide +kernel) (fun _ => rfl)).trans ?_
    refine (R_virt (i := 219) (f := 203) (kd := 0) (na := 5) (ml := 7) (ci := 10) (n := 33) (b := 68) (As := [.int x1, .int x2, .int ((mi 77 (0 + x1).toNatClampNeg) + x4), .int 0, .int x3]) (rest := []) (by decide +kernel) (by decide +kernel) (by decide) (by decide +kernel) rfl (by decide +kernel) rfl rfl (by decide +kernel) (Nat.le_of_ble_eq_true rfl)).trans ?_
    rfl
  · refine (R_bipush (n := (-9)) (v := (-9)) (by decide +kernel) (by decide +kernel)).trans ?_
    exact R_ireturn (by decide +kernel) (by decide +kernel)
theorem s205_67 {L : Nat} {mi : Nat → Nat → Int32} {ml : Nat → Nat → Int64} {d : Nat} {Q : Option Value → xM → Prop} {x1 x2 x3 x4 y : Int32} : X 205 67 [.ref 68, .int x1, .int x2, .int x3, .int x4] [.int y] (SH L, mi, ml, MR) d Q =
    if (y < 1000000) then (Q (some (.int x4)) (SH L, mi, ml, MR)) else (X 205 32 [.ref 68, .int x1, .int x2, .int x3, .int (x4 + 1)] [] (SH L, mi, ml, MR) d Q) := by
  refine (R_ldc (i := 218) (v := 1000000) (by decide +kernel) (by decide +kernel)).trans ?_
  refine (R_icmp_ge (off := 6) (t := 75) (by decide +kernel) (by decide +kernel)).trans (ite_congr rfl (fun c0 => ?_) (fun c0 => ?_))
  · refine (R_pure0 (ins := .iload 4) (len := 2) (loc' := [.ref 68, .int x1, .int x2, .int x3, .int x4]) (st' := [.int x4]) (by decide +kernel) (fun _ => rfl)).trans ?_
    exact R_ireturn (by decide +kernel) (by decide +kernel)
  · refine (R_iinc (k := 4) (n := 1) (x := x4) (v := (x4 + 1)) (loc' := [.ref 68, .int x1, .int x2, .int x3, .int (x4 + 1)]) (by decide +kernel) rfl rfl rfl).trans ?_
    refine (R_goto (off := (-46)) (t := 32) (by decide +kernel) (by decide +kernel)).trans ?_
    rfl
theorem s206 {L : Nat} {mi : Nat → Nat → Int32} {ml : Nat → Nat → Int64} {d : Nat} {Q : Option Value → xM → Prop} {x1 : Int32} (h1 : ¬ ((mi 68 4) = 0) → xin x1 6 = true) (h2 : ¬ ((mi 68 4) = 0) → ¬ ((mi 69 x1.toNatClampNeg) < 0) → xin x1 6 = true) : Xm 206 [.ref 68, .int x1] (SH L, mi, ml, MR) (d + 1) Q =
    if ((mi 68 4) = 0) then (Q (some (.int (-4))) (SH L, mi, ml, MR)) else (if ((mi 69 x1.toNatClampNeg) < 0) then (Xm 152 [.ref 68, .int 1] (SH L, mi, ml, MR) d (fun v μ' => X 206 24 [.ref 68, .int x1, xmk] (v.toList ++ []) μ' (d + 1) Q)) else (if ((5 : Int32) < (mi 69 x1.toNatClampNeg)) then (Xm 152 [.ref 68, .int 5] (SH L, mi, ml, MR) d (fun v μ' => X 206 40 [.ref 68, .int x1, xmk] (v.toList ++ []) μ' (d + 1) Q)) else (X 206 43 [.ref 68, .int x1, .int 0] [] (SH L, mi, ml, MR) (d + 1) Q))) := by
  rw [Xm_ent (n := 3) (loc := [.ref 68, .int x1, xmk]) (by decide +kernel) rfl]
  refine (R_pure0 (ins := .aload_n 0) (len := 1) (loc' := [.ref 68, .int x1, xmk]) (st' := [.ref 68]) (by decide +kernel) (fun _ => rfl)).trans ?_
  refine (R_gi (i := 131) (ci := 10) (k := 4) (n := 33) (by decide +kernel) (by decide +kernel) (by decide) rfl).trans ?_
  refine (R_if_ne (off := 6) (t := 10) (by decide +kernel) (by decide +kernel)).trans (ite_congr rfl (fun c0 => ?_) (fun c0 => ?_))
  · refine (R_bipush (n := (-4)) (v := (-4)) (by decide +kernel) (by decide +kernel)).trans ?_
    exact R_ireturn (by decide +kernel) (by decide +kernel)
  · refine (R_pure0 (ins := .aload_n 0) (len := 1) (loc' := [.ref 68, .int x1, xmk]) (st' := [.ref 68]) (by decide +kernel) (fun _ => rfl)).trans ?_
    refine (R_gr (i := 7) (ci := 10) (k := 0) (n := 33) (b := 69) (by decide +kernel) (by decide +kernel) (by decide) rfl (SH_ref (by decide +kernel))).trans ?_
    refine (R_pure0 (ins := .iload_n 1) (len := 1) (loc' := [.ref 68, .int x1, xmk]) (st' := [.int x1, .ref 69]) (by decide +kernel) (fun _ => rfl)).trans ?_
    refine (R_iaload (kd := 100) (n := 6) (by decide +kernel) rfl (by decide) (h1 c0)).trans ?_
    refine (R_if_ge (off := 9) (t := 25) (by decide +kernel) (by decide +kernel)).trans (ite_congr rfl (fun c1 => ?_) (fun c1 => ?_))
    · refine (R_pure0 (ins := .aload_n 0) (len := 1) (loc' := [.ref 68, .int x1, xmk]) (st' := [.ref 68]) (by decide +kernel) (fun _ => rfl)).trans ?_
      refine (R_iconst (n := 1) (v := 1) (by decide +kernel) (by decide +kernel)).trans ?_
      refine (R_virt (i := 97) (f := 152) (kd := 0) (na := 1) (ml := 2) (ci := 10) (n := 33) (b := 68) (As := [.int 1]) (rest := []) (by decide +kernel) (by decide +kernel) (by decide) (by decide +kernel) rfl (by decide +kernel) rfl rfl (by decide +kernel) (Nat.le_of_ble_eq_true rfl)).trans ?_
      rfl
    · refine (R_pure0 (ins := .aload_n 0) (len := 1) (loc' := [.ref 68, .int x1, xmk]) (st' := [.ref 68]) (by decide +kernel) (fun _ => rfl)).trans ?_
      refine (R_gr (i := 7) (ci := 10) (k := 0) (n := 33) (b := 69) (by decide +kernel) (by decide +kernel) (by decide) rfl (SH_ref (by decide +kernel))).trans ?_
      refine (R_pure0 (ins := .iload_n 1) (len := 1) (loc' := [.ref 68, .int x1, xmk]) (st' := [.int x1, .ref 69]) (by decide +kernel) (fun _ => rfl)).trans ?_
      refine (R_iaload (kd := 100) (n := 6) (by decide +kernel) rfl (by decide) (h2 c0 c1)).trans ?_
      refine (R_iconst (n := 5) (v := 5) (by decide +kernel) (by decide +kernel)).trans ?_
      refine (R_icmp_le (off := 9) (t := 41) (by decide +kernel) (by decide +kernel)).trans (ite_congr rfl (fun c2 => ?_) (fun c2 => ?_))
      · refine (R_pure0 (ins := .aload_n 0) (len := 1) (loc' := [.ref 68, .int x1, xmk]) (st' := [.ref 68]) (by decide +kernel) (fun _ => rfl)).trans ?_
        refine (R_iconst (n := 5) (v := 5) (by decide +kernel) (by decide +kernel)).trans ?_
        refine (R_virt (i := 97) (f := 152) (kd := 0) (na := 1) (ml := 2) (ci := 10) (n := 33) (b := 68) (As := [.int 5]) (rest := []) (by decide +kernel) (by decide +kernel) (by decide) (by decide +kernel) rfl (by decide +kernel) rfl rfl (by decide +kernel) (Nat.le_of_ble_eq_true rfl)).trans ?_
        rfl
      · refine (R_iconst (n := 0) (v := 0) (by decide +kernel) (by decide +kernel)).trans ?_
        refine (R_pure0 (ins := .istore_n 2) (len := 1) (loc' := [.ref 68, .int x1, .int 0]) (st' := []) (by decide +kernel) (fun _ => rfl)).trans ?_
        rfl
theorem s206_24 {L : Nat} {mi : Nat → Nat → Int32} {ml : Nat → Nat → Int64} {d : Nat} {Q : Option Value → xM → Prop} {x1 y : Int32} : X 206 24 [.ref 68, .int x1, xmk] [.int y] (SH L, mi, ml, MR) d Q =
    Q (some (.int y)) (SH L, mi, ml, MR) := by
  exact R_ireturn (by decide +kernel) (by decide +kernel)
theorem s206_40 {L : Nat} {mi : Nat → Nat → Int32} {ml : Nat → Nat → Int64} {d : Nat} {Q : Option Value → xM → Prop} {x1 y : Int32} : X 206 40 [.ref 68, .int x1, xmk] [.int y] (SH L, mi, ml, MR) d Q =
    Q (some (.int y)) (SH L, mi, ml, MR) := by
  exact R_ireturn (by decide +kernel) (by decide +kernel)
theorem s206_43 {L : Nat} {mi : Nat → Nat → Int32} {ml : Nat → Nat → Int64} {d : Nat} {Q : Option Value → xM → Prop} {x1 x2 : Int32} (h1 : xin x1 6 = true) (h2 : (x2 < (mi 69 x1.toNatClampNeg)) → xin ((40 * x1) + x2) 240 = true) : X 206 43 [.ref 68, .int x1, .int x2] [] (SH L, mi, ml, MR) (d + 1) Q =
    if (x2 < (mi 69 x1.toNatClampNeg)) then (Xm 149 [.long (mi 70 ((40 * x1) + x2).toNatClampNeg).toInt64, .long 0, .long 9] (SH L, mi, ml, MR) d (fun v μ' => X 206 72 [.ref 68, .int x1, .int x2] (v.toList ++ []) μ' (d + 1) Q)) else (Q (some (.int 0)) (SH L, mi, ml, MR)) := by
  refine (R_pure0 (ins := .iload_n 2) (len := 1) (loc' := [.ref 68, .int x1, .int x2]) (st' := [.int x2]) (by decide +kernel) (fun _ => rfl)).trans ?_
  refine (R_pure0 (ins := .aload_n 0) (len := 1) (loc' := [.ref 68, .int x1, .int x2]) (st' := [.ref 68, .int x2]) (by decide +kernel) (fun _ => rfl)).trans ?_
  refine (R_gr (i := 7) (ci := 10) (k := 0) (n := 33) (b := 69) (by decide +kernel) (by decide +kernel) (by decide) rfl (SH_ref (by decide +kernel))).trans ?_
  refine (R_pure0 (ins := .iload_n 1) (len := 1) (loc' := [.ref 68, .int x1, .int x2]) (st' := [.int x1, .ref 69, .int x2]) (by decide +kernel) (fun _ => rfl)).trans ?_
  refine (R_iaload (kd := 100) (n := 6) (by decide +kernel) rfl (by decide) (h1)).trans ?_
  refine (R_icmp_ge (off := 37) (t := 87) (by decide +kernel) (by decide +kernel)).trans (ite_congr rfl (fun c0 => ?_) (fun c0 => ?_))
  · refine (R_pure0 (ins := .aload_n 0) (len := 1) (loc' := [.ref 68, .int x1, .int x2]) (st' := [.ref 68]) (by decide +kernel) (fun _ => rfl)).trans ?_
    refine (R_gr (i := 13) (ci := 10) (k := 1) (n := 33) (b := 70) (by decide +kernel) (by decide +kernel) (by decide) rfl (SH_ref (by decide +kernel))).trans ?_
    refine (R_bipush (n := 40) (v := 40) (by decide +kernel) (by decide +kernel)).trans ?_
    refine (R_pure0 (ins := .iload_n 1) (len := 1) (loc' := [.ref 68, .int x1, .int x2]) (st' := [.int x1, .int 40, .ref 70]) (by decide +kernel) (fun _ => rfl)).trans ?_
    refine (R_pure0 (ins := .imul) (len := 1) (loc' := [.ref 68, .int x1, .int x2]) (st' := [.int (40 * x1), .ref 70]) (by decide +kernel) (fun _ => rfl)).trans ?_
    refine (R_pure0 (ins := .iload_n 2) (len := 1) (loc' := [.ref 68, .int x1, .int x2]) (st' := [.int x2, .int (40 * x1), .ref 70]) (by decide +kernel) (fun _ => rfl)).trans ?_
    refine (R_pure0 (ins := .iadd) (len := 1) (loc' := [.ref 68, .int x1, .int x2]) (st' := [.int ((40 * x1) + x2), .ref 70]) (by decide +kernel) (fun _ => rfl)).trans ?_
    refine (R_iaload (kd := 100) (n := 240) (by decide +kernel) rfl (by decide) (h2 c0)).trans ?_
    refine (R_pure0 (ins := .i2l) (len := 1) (loc' := [.ref 68, .int x1, .int x2]) (st' := [.long (mi 70 ((40 * x1) + x2).toNatClampNeg).toInt64]) (by decide +kernel) (fun _ => rfl)).trans ?_
    refine (R_lconst (n := 0) (v := 0) (by decide +kernel) (by decide +kernel)).trans ?_
    refine (R_ldc2 (i := 119) (v := 9) (by decide +kernel) (by decide +kernel)).trans ?_
    refine (R_static (i := 87) (f := 149) (kd := 2) (na := 3) (ml := 6) (As := [.long (mi 70 ((40 * x1) + x2).toNatClampNeg).toInt64, .long 0, .long 9]) (rest := []) (by decide +kernel) (by decide +kernel) (by decide) (by decide +kernel) rfl rfl (by decide +kernel) (Nat.le_of_ble_eq_true rfl)).trans ?_
    rfl
  · refine (R_iconst (n := 0) (v := 0) (by decide +kernel) (by decide +kernel)).trans ?_
    exact R_ireturn (by decide +kernel) (by decide +kernel)
theorem s206_72 {L : Nat} {mi : Nat → Nat → Int32} {ml : Nat → Nat → Int64} {d : Nat} {Q : Option Value → xM → Prop} {x1 x2 y : Int32} : X 206 72 [.ref 68, .int x1, .int x2] [.int y] (SH L, mi, ml, MR) (d + 1) Q =
    if (y = 0) then (Xm 152 [.ref 68, .int 3] (SH L, mi, ml, MR) d (fun v μ' => X 206 80 [.ref 68, .int x1, .int x2] (v.toList ++ []) μ' (d + 1) Q)) else (X 206 43 [.ref 68, .int x1, .int (x2 + 1)] [] (SH L, mi, ml, MR) (d + 1) Q) := by
  refine (R_if_ne (off := 9) (t := 81) (by decide +kernel) (by decide +kernel)).trans (ite_congr rfl (fun c0 => ?_) (fun c0 => ?_))
  · refine (R_pure0 (ins := .aload_n 0) (len := 1) (loc' := [.ref 68, .int x1, .int x2]) (st' := [.ref 68]) (by decide +kernel) (fun _ => rfl)).trans ?_
    refine (R_iconst (n := 3) (v := 3) (by decide +kernel) (by decide +kernel)).trans ?_
    refine (R_virt (i := 97) (f := 152) (kd := 0) (na := 1) (ml := 2) (ci := 10) (n := 33) (b := 68) (As := [.int 3]) (rest := []) (by decide +kernel) (by decide +kernel) (by decide) (by decide +kernel) rfl (by decide +kernel) rfl rfl (by decide +kernel) (Nat.le_of_ble_eq_true rfl)).trans ?_
    rfl
  · refine (R_iinc (k := 2) (n := 1) (x := x2) (v := (x2 + 1)) (loc' := [.ref 68, .int x1, .int (x2 + 1)]) (by decide +kernel) rfl rfl rfl).trans ?_
    refine (R_goto (off := (-41)) (t := 43) (by decide +kernel) (by decide +kernel)).trans ?_
    rfl
theorem s206_80 {L : Nat} {mi : Nat → Nat → Int32} {ml : Nat → Nat → Int64} {d : Nat} {Q : Option Value → xM → Prop} {x1 x2 y : Int32} : X 206 80 [.ref 68, .int x1, .int x2] [.int y] (SH L, mi, ml, MR) d Q =
    Q (some (.int y)) (SH L, mi, ml, MR) := by
  exact R_ireturn (by decide +kernel) (by decide +kernel)
theorem s207 {L : Nat} {mi : Nat → Nat → Int32} {ml : Nat → Nat → Int64} {d : Nat} {Q : Option Value → xM → Prop} {x1 : Int32} : Xm 207 [.ref 68, .int x1] (SH L, mi, ml, MR) d Q =
    X 207 4 [.ref 68, .int x1, .int 1, .int 0] [] (SH L, mi, ml, MR) d Q := by
  rw [Xm_ent (n := 4) (loc := [.ref 68, .int x1, xmk, xmk]) (by decide +kernel) rfl]
  refine (R_iconst (n := 1) (v := 1) (by decide +kernel) (by decide +kernel)).trans ?_
  refine (R_pure0 (ins := .istore_n 2) (len := 1) (loc' := [.ref 68, .int x1, .int 1, xmk]) (st' := []) (by decide +kernel) (fun _ => rfl)).trans ?_
  refine (R_iconst (n := 0) (v := 0) (by decide +kernel) (by decide +kernel)).trans ?_
  refine (R_pure0 (ins := .istore_n 3) (len := 1) (loc' := [.ref 68, .int x1, .int 1, .int 0]) (st' := []) (by decide +kernel) (fun _ => rfl)).trans ?_
  rfl
theorem s207_4 {L : Nat} {mi : Nat → Nat → Int32} {ml : Nat → Nat → Int64} {d : Nat} {Q : Option Value → xM → Prop} {x1 x2 x3 : Int32} : X 207 4 [.ref 68, .int x1, .int x2, .int x3] [] (SH L, mi, ml, MR) d Q =
    if (x3 < x1) then (X 207 4 [.ref 68, .int x1, .int (x2 * (mi 68 4)), .int (x3 + 1)] [] (SH L, mi, ml, MR) d Q) else (Q (some (.int x2)) (SH L, mi, ml, MR)) := by
  refine (R_pure0 (ins := .iload_n 3) (len := 1) (loc' := [.ref 68, .int x1, .int x2, .int x3]) (st' := [.int x3]) (by decide +kernel) (fun _ => rfl)).trans ?_
  refine (R_pure0 (ins := .iload_n 1) (len := 1) (loc' := [.ref 68, .int x1, .int x2, .int x3]) (st' := [.int x1, .int x3]) (by decide +kernel) (fun _ => rfl)).trans ?_
  refine (R_icmp_ge (off := 16) (t := 22) (by decide +kernel) (by decide +kernel)).trans (ite_congr rfl (fun c0 => ?_) (fun c0 => ?_))
  · refine (R_pure0 (ins := .iload_n 2) (len := 1) (loc' := [.ref 68, .int x1, .int x2, .int x3]) (st' := [.int x2]) (by decide +kernel) (fun _ => rfl)).trans ?_
    refine (R_pure0 (ins := .aload_n 0) (len := 1) (loc' := [.ref 68, .int x1, .int x2, .int x3]) (st' := [.ref 68, .int x2]) (by decide +kernel) (fun _ => rfl)).trans ?_
    refine (R_gi (i := 131) (ci := 10) (k := 4) (n := 33) (by decide +kernel) (by decide +kernel) (by decide) rfl).trans ?_
    refine (R_pure0 (ins := .imul) (len := 1) (loc' := [.ref 68, .int x1, .int x2, .int x3]) (st' := [.int (x2 * (mi 68 4))]) (by decide +kernel) (fun _ => rfl)).trans ?_
    refine (R_pure0 (ins := .istore_n 2) (len := 1) (loc' := [.ref 68, .int x1, .int (x2 * (mi 68 4)), .int x3]) (st' := []) (by decide +kernel) (fun _ => rfl)).trans ?_
    refine (R_iinc (k := 3) (n := 1) (x := x3) (v := (x3 + 1)) (loc' := [.ref 68, .int x1, .int (x2 * (mi 68 4)), .int (x3 + 1)]) (by decide +kernel) rfl rfl rfl).trans ?_
    refine (R_goto (off := (-15)) (t := 4) (by decide +kernel) (by decide +kernel)).trans ?_
    rfl
  · refine (R_pure0 (ins := .iload_n 2) (len := 1) (loc' := [.ref 68, .int x1, .int x2, .int x3]) (st' := [.int x2]) (by decide +kernel) (fun _ => rfl)).trans ?_
    exact R_ireturn (by decide +kernel) (by decide +kernel)
theorem s208 {L : Nat} {mi : Nat → Nat → Int32} {ml : Nat → Nat → Int64} {d : Nat} {Q : Option Value → xM → Prop} {x1 x2 x3 : Int32} (h1 : xin x2 6 = true) : Xm 208 [.ref 68, .int x1, .int x2, .int x3] (SH L, mi, ml, MR) d Q =
    X 208 17 [.ref 68, .int x1, .int x2, .int x3, .int (mi 69 x2.toNatClampNeg), .int x1, .int ((mi 69 x2.toNatClampNeg) - 1), xmk, xmk, xmk] [] (SH L, mi, ml, MR) d Q := by
  rw [Xm_ent (n := 10) (loc := [.ref 68, .int x1, .int x2, .int x3, xmk, xmk, xmk, xmk, xmk, xmk]) (by decide +kernel) rfl]
  refine (R_pure0 (ins := .aload_n 0) (len := 1) (loc' := [.ref 68, .int x1, .int x2, .int x3, xmk, xmk, xmk, xmk, xmk, xmk]) (st' := [.ref 68]) (by decide +kernel) (fun _ => rfl)).trans ?_
  refine (R_gr (i := 7) (ci := 10) (k := 0) (n := 33) (b := 69) (by decide +kernel) (by decide +kernel) (by decide) rfl (SH_ref (by decide +kernel))).trans ?_
  refine (R_pure0 (ins := .iload_n 2) (len := 1) (loc' := [.ref 68, .int x1, .int x2, .int x3, xmk, xmk, xmk, xmk, xmk, xmk]) (st' := [.int x2, .ref 69]) (by decide +kernel) (fun _ => rfl)).trans ?_
  refine (R_iaload (kd := 100) (n := 6) (by decide +kernel) rfl (by decide) (h1)).trans ?_
  refine (R_pure0 (ins := .istore 4) (len := 2) (loc' := [.ref 68, .int x1, .int x2, .int x3, .int (mi 69 x2.toNatClampNeg), xmk, xmk, xmk, xmk, xmk]) (st' := []) (by decide +kernel) (fun _ => rfl)).trans ?_
  refine (R_pure0 (ins := .iload_n 1) (len := 1) (loc' := [.ref 68, .int x1, .int x2, .int x3, .int (mi 69 x2.toNatClampNeg), xmk, xmk, xmk, xmk, xmk]) (st' := [.int x1]) (by decide +kernel) (fun _ => rfl)).trans ?_
  refine (R_pure0 (ins := .istore 5) (len := 2) (loc' := [.ref 68, .int x1, .int x2, .int x3, .int (mi 69 x2.toNatClampNeg), .int x1, xmk, xmk, xmk, xmk]) (st' := []) (by decide +kernel) (fun _ => rfl)).trans ?_
  refine (R_pure0 (ins := .iload 4) (len := 2) (loc' := [.ref 68, .int x1, .int x2, .int x3, .int (mi 69 x2.toNatClampNeg), .int x1, xmk, xmk, xmk, xmk]) (st' := [.int (mi 69 x2.toNatClampNeg)]) (by decide +kernel) (fun _ => rfl)).trans ?_
  refine (R_iconst (n := 1) (v := 1) (by decide +kernel) (by decide +kernel)).trans ?_
  refine (R_pure0 (ins := .isub) (len := 1) (loc' := [.ref 68, .int x1, .int x2, .int x3, .int (mi 69 x2.toNatClampNeg), .int x1, xmk, xmk, xmk, xmk]) (st' := [.int ((mi 69 x2.toNatClampNeg) - 1)]) (by decide +kernel) (fun _ => rfl)).trans ?_
  refine (R_pure0 (ins := .istore 6) (len := 2) (loc' := [.ref 68, .int x1, .int x2, .int x3, .int (mi 69 x2.toNatClampNeg), .int x1, .int ((mi 69 x2.toNatClampNeg) - 1), xmk, xmk, xmk]) (st' := []) (by decide +kernel) (fun _ => rfl)).trans ?_
  rfl
theorem s208_17 {L : Nat} {mi : Nat → Nat → Int32} {ml : Nat → Nat → Int64} {d : Nat} {Q : Option Value → xM → Prop} {x1 x2 x3 x4 x5 x6 : Int32} (h1 : ¬ (x6 < 0) → ¬ (mi 68 4) = 0) (h2 : ¬ (x6 < 0) → xin x6 5 = true) (h3 : ¬ (x6 < 0) → ¬ ((xw mi 83 x6.toNatClampNeg (x5 - x5 / (mi 68 4) * (mi 68 4))) 68 4) = 0) : X 208 17 [.ref 68, .int x1, .int x2, .int x3, .int x4, .int x5, .int x6, xmk, xmk, xmk] [] (SH L, mi, ml, MR) (d + 1) Q =
    if (x6 < 0) then (Xm 188 [.ref 77, .int 6, .ref 85, .int 0, .int 6] (SH L, mi, ml, MR) d (fun v μ' => X 208 67 [.ref 68, .int x1, .int x2, .int x3, .int x4, .int x5, .int x6, xmk, xmk, xmk] (v.toList ++ []) μ' (d + 1) Q)) else (X 208 17 [.ref 68, .int x1, .int x2, .int x3, .int x4, .int (x5 / ((xw mi 83 x6.toNatClampNeg (x5 - x5 / (mi 68 4) * (mi 68 4))) 68 4)), .int (x6 + (-1)), xmk, xmk, xmk] [] (SH L, (xw mi 83 x6.toNatClampNeg (x5 - x5 / (mi 68 4) * (mi 68 4))), ml, MR) (d + 1) Q) := by
  refine (R_pure0 (ins := .iload 6) (len := 2) (loc' := [.ref 68, .int x1, .int x2, .int x3, .int x4, .int x5, .int x6, xmk, xmk, xmk]) (st' := [.int x6]) (by decide +kernel) (fun _ => rfl)).trans ?_
  refine (R_if_lt (off := 32) (t := 51) (by decide +kernel) (by decide +kernel)).trans (ite_congr rfl (fun c0 => ?_) (fun c0 => ?_))
  · refine (R_pure0 (ins := .aload_n 0) (len := 1) (loc' := [.ref 68, .int x1, .int x2, .int x3, .int x4, .int x5, .int x6, xmk, xmk, xmk]) (st' := [.ref 68]) (by decide +kernel) (fun _ => rfl)).trans ?_
    refine (R_gr (i := 34) (ci := 10) (k := 9) (n := 33) (b := 77) (by decide +kernel) (by decide +kernel) (by decide) rfl (SH_ref (by decide +kernel))).trans ?_
    refine (R_bipush (n := 6) (v := 6) (by decide +kernel) (by decide +kernel)).trans ?_
    refine (R_pure0 (ins := .aload_n 0) (len := 1) (loc' := [.ref 68, .int x1, .int x2, .int x3, .int x4, .int x5, .int x6, xmk, xmk, xmk]) (st' := [.ref 68, .int 6, .ref 77]) (by decide +kernel) (fun _ => rfl)).trans ?_
    refine (R_gr (i := 63) (ci := 10) (k := 24) (n := 33) (b := 85) (by decide +kernel) (by decide +kernel) (by decide) rfl (SH_ref (by decide +kernel))).trans ?_
    refine (R_iconst (n := 0) (v := 0) (by decide +kernel) (by decide +kernel)).trans ?_
    refine (R_bipush (n := 6) (v := 6) (by decide +kernel) (by decide +kernel)).trans ?_
    refine (R_static (i := 184) (f := 188) (kd := 2) (na := 5) (ml := 6) (As := [.ref 77, .int 6, .ref 85, .int 0, .int 6]) (rest := []) (by decide +kernel) (by decide +kernel) (by decide) (by decide +kernel) rfl rfl (by decide +kernel) (Nat.le_of_ble_eq_true rfl)).trans ?_
    rfl
  · refine (R_pure0 (ins := .aload_n 0) (len := 1) (loc' := [.ref 68, .int x1, .int x2, .int x3, .int x4, .int x5, .int x6, xmk, xmk, xmk]) (st' := [.ref 68]) (by decide +kernel) (fun _ => rfl)).trans ?_
    refine (R_gr (i := 57) (ci := 10) (k := 22) (n := 33) (b := 83) (by decide +kernel) (by decide +kernel) (by decide) rfl (SH_ref (by decide +kernel))).trans ?_
    refine (R_pure0 (ins := .iload 6) (len := 2) (loc' := [.ref 68, .int x1, .int x2, .int x3, .int x4, .int x5, .int x6, xmk, xmk, xmk]) (st' := [.int x6, .ref 83]) (by decide +kernel) (fun _ => rfl)).trans ?_
    refine (R_pure0 (ins := .iload 5) (len := 2) (loc' := [.ref 68, .int x1, .int x2, .int x3, .int x4, .int x5, .int x6, xmk, xmk, xmk]) (st' := [.int x5, .int x6, .ref 83]) (by decide +kernel) (fun _ => rfl)).trans ?_
    refine (R_pure0 (ins := .aload_n 0) (len := 1) (loc' := [.ref 68, .int x1, .int x2, .int x3, .int x4, .int x5, .int x6, xmk, xmk, xmk]) (st' := [.ref 68, .int x5, .int x6, .ref 83]) (by decide +kernel) (fun _ => rfl)).trans ?_
    refine (R_gi (i := 131) (ci := 10) (k := 4) (n := 33) (by decide +kernel) (by decide +kernel) (by decide) rfl).trans ?_
    refine (R_irem (x := x5) (y := (mi 68 4)) (by decide +kernel) (h1 c0)).trans ?_
    refine (R_iastore (n := 5) (by decide +kernel) rfl (h2 c0)).trans ?_
    refine (R_pure0 (ins := .iload 5) (len := 2) (loc' := [.ref 68, .int x1, .int x2, .int x3, .int x4, .int x5, .int x6, xmk, xmk, xmk]) (st' := [.int x5]) (by decide +kernel) (fun _ => rfl)).trans ?_
    refine (R_pure0 (ins := .aload_n 0) (len := 1) (loc' := [.ref 68, .int x1, .int x2, .int x3, .int x4, .int x5, .int x6, xmk, xmk, xmk]) (st' := [.ref 68, .int x5]) (by decide +kernel) (fun _ => rfl)).trans ?_
    refine (R_gi (i := 131) (ci := 10) (k := 4) (n := 33) (by decide +kernel) (by decide +kernel) (by decide) rfl).trans ?_
    refine (R_idiv (x := x5) (y := ((xw mi 83 x6.toNatClampNeg (x5 - x5 / (mi 68 4) * (mi 68 4))) 68 4)) (by decide +kernel) (h3 c0)).trans ?_
    refine (R_pure0 (ins := .istore 5) (len := 2) (loc' := [.ref 68, .int x1, .int x2, .int x3, .int x4, .int (x5 / ((xw mi 83 x6.toNatClampNeg (x5 - x5 / (mi 68 4) * (mi 68 4))) 68 4)), .int x6, xmk, xmk, xmk]) (st' := []) (by decide +kernel) (fun _ => rfl)).trans ?_
    refine (R_iinc (k := 6) (n := (-1)) (x := x6) (v := (x6 + (-1))) (loc' := [.ref 68, .int x1, .int x2, .int x3, .int x4, .int (x5 / ((xw mi 83 x6.toNatClampNeg (x5 - x5 / (mi 68 4) * (mi 68 4))) 68 4)), .int (x6 + (-1)), xmk, xmk, xmk]) (by decide +kernel) rfl rfl rfl).trans ?_
    refine (R_goto (off := (-31)) (t := 17) (by decide +kernel) (by decide +kernel)).trans ?_
    rfl
theorem s208_67 {L : Nat} {mi : Nat → Nat → Int32} {ml : Nat → Nat → Int64} {d : Nat} {Q : Option Value → xM → Prop} {x1 x2 x3 x4 x5 x6 : Int32} : X 208 67 [.ref 68, .int x1, .int x2, .int x3, .int x4, .int x5, .int x6, xmk, xmk, xmk] [] (SH L, mi, ml, MR) d Q =
    X 208 73 [.ref 68, .int x1, .int x2, .int x3, .int x4, .int x5, .int 0, .int 0, xmk, xmk] [] (SH L, mi, ml, MR) d Q := by
  refine (R_iconst (n := 0) (v := 0) (by decide +kernel) (by decide +kernel)).trans ?_
  refine (R_pure0 (ins := .istore 6) (len := 2) (loc' := [.ref 68, .int x1, .int x2, .int x3, .int x4, .int x5, .int 0, xmk, xmk, xmk]) (st' := []) (by decide +kernel) (fun _ => rfl)).trans ?_
  refine (R_iconst (n := 0) (v := 0) (by decide +kernel) (by decide +kernel)).trans ?_
  refine (R_pure0 (ins := .istore 7) (len := 2) (loc' := [.ref 68, .int x1, .int x2, .int x3, .int x4, .int x5, .int 0, .int 0, xmk, xmk]) (st' := []) (by decide +kernel) (fun _ => rfl)).trans ?_
  rfl
theorem s208_73 {L : Nat} {mi : Nat → Nat → Int32} {ml : Nat → Nat → Int64} {d : Nat} {Q : Option Value → xM → Prop} {x1 x2 x3 x4 x5 x6 x7 : Int32} (h1 : (x7 < x4) → (x6 < 1000000) → xin x7 5 = true) (h2 : (x7 < x4) → (x6 < 1000000) → xin (mi 83 x7.toNatClampNeg) 6 = true) (h3 : (x7 < x4) → (x6 < 1000000) → xin (mi 83 x7.toNatClampNeg) 6 = true) (h4 : (x7 < x4) → (x6 < 1000000) → xin (mi 83 x7.toNatClampNeg) 6 = true) : X 208 73 [.ref 68, .int x1, .int x2, .int x3, .int x4, .int x5, .int x6, .int x7, xmk, xmk] [] (SH L, mi, ml, MR) (d + 1) Q =
    if (x7 < x4) then (if (x6 < 1000000) then (if ((mi 85 (mi 83 x7.toNatClampNeg).toNatClampNeg) < 9) then (Xm 180 [.ref 68, .int (mi 83 x7.toNatClampNeg), .int (mi 85 (mi 83 x7.toNatClampNeg).toNatClampNeg)] (SH L, (xw mi 85 (mi 83 x7.toNatClampNeg).toNatClampNeg ((mi 85 (mi 83 x7.toNatClampNeg).toNatClampNeg) + 1)), ml, MR) d (fun v μ' => X 208 131 [.ref 68, .int x1, .int x2, .int x3, .int x4, .int x5, .int x6, .int x7, .int (mi 83 x7.toNatClampNeg), .int (mi 85 (mi 83 x7.toNatClampNeg).toNatClampNeg)] (v.toList ++ []) μ' (d + 1) Q)) else (X 208 73 [.ref 68, .int x1, .int x2, .int x3, .int x4, .int x5, .int 1000000, .int (x7 + 1), .int (mi 83 x7.toNatClampNeg), .int (mi 85 (mi 83 x7.toNatClampNeg).toNatClampNeg)] [] (SH L, (xw mi 85 (mi 83 x7.toNatClampNeg).toNatClampNeg ((mi 85 (mi 83 x7.toNatClampNeg).toNatClampNeg) + 1)), ml, MR) (d + 1) Q)) else (Q (some (.int x6)) (SH L, mi, ml, MR))) else (Q (some (.int x6)) (SH L, mi, ml, MR)) := by
  refine (R_pure0 (ins := .iload 7) (len := 2) (loc' := [.ref 68, .int x1, .int x2, .int x3, .int x4, .int x5, .int x6, .int x7, xmk, xmk]) (st' := [.int x7]) (by decide +kernel) (fun _ => rfl)).trans ?_
  refine (R_pure0 (ins := .iload 4) (len := 2) (loc' := [.ref 68, .int x1, .int x2, .int x3, .int x4, .int x5, .int x6, .int x7, xmk, xmk]) (st' := [.int x4, .int x7]) (by decide +kernel) (fun _ => rfl)).trans ?_
  refine (R_icmp_ge (off := 102) (t := 179) (by decide +kernel) (by decide +kernel)).trans (ite_congr rfl (fun c0 => ?_) (fun c0 => ?_))
  · refine (R_pure0 (ins := .iload 6) (len := 2) (loc' := [.ref 68, .int x1, .int x2, .int x3, .int x4, .int x5, .int x6, .int x7, xmk, xmk]) (st' := [.int x6]) (by decide +kernel) (fun _ => rfl)).trans ?_
    refine (R_ldc (i := 218) (v := 1000000) (by decide +kernel) (by decide +kernel)).trans ?_
    refine (R_icmp_ge (off := 95) (t := 179) (by decide +kernel) (by decide +kernel)).trans (ite_congr rfl (fun c1 => ?_) (fun c1 => ?_))
    · refine (R_pure0 (ins := .aload_n 0) (len := 1) (loc' := [.ref 68, .int x1, .int x2, .int x3, .int x4, .int x5, .int x6, .int x7, xmk, xmk]) (st' := [.ref 68]) (by decide +kernel) (fun _ => rfl)).trans ?_
      refine (R_gr (i := 57) (ci := 10) (k := 22) (n := 33) (b := 83) (by decide +kernel) (by decide +kernel) (by decide) rfl (SH_ref (by decide +kernel))).trans ?_
      refine (R_pure0 (ins := .iload 7) (len := 2) (loc' := [.ref 68, .int x1, .int x2, .int x3, .int x4, .int x5, .int x6, .int x7, xmk, xmk]) (st' := [.int x7, .ref 83]) (by decide +kernel) (fun _ => rfl)).trans ?_
      refine (R_iaload (kd := 100) (n := 5) (by decide +kernel) rfl (by decide) (h1 c0 c1)).trans ?_
      refine (R_pure0 (ins := .istore 8) (len := 2) (loc' := [.ref 68, .int x1, .int x2, .int x3, .int x4, .int x5, .int x6, .int x7, .int (mi 83 x7.toNatClampNeg), xmk]) (st' := []) (by decide +kernel) (fun _ => rfl)).trans ?_
      refine (R_pure0 (ins := .aload_n 0) (len := 1) (loc' := [.ref 68, .int x1, .int x2, .int x3, .int x4, .int x5, .int x6, .int x7, .int (mi 83 x7.toNatClampNeg), xmk]) (st' := [.ref 68]) (by decide +kernel) (fun _ => rfl)).trans ?_
      refine (R_gr (i := 63) (ci := 10) (k := 24) (n := 33) (b := 85) (by decide +kernel) (by decide +kernel) (by decide) rfl (SH_ref (by decide +kernel))).trans ?_
      refine (R_pure0 (ins := .iload 8) (len := 2) (loc' := [.ref 68, .int x1, .int x2, .int x3, .int x4, .int x5, .int x6, .int x7, .int (mi 83 x7.toNatClampNeg), xmk]) (st' := [.int (mi 83 x7.toNatClampNeg), .ref 85]) (by decide +kernel) (fun _ => rfl)).trans ?_
      refine (R_iaload (kd := 100) (n := 6) (by decide +kernel) rfl (by decide) (h2 c0 c1)).trans ?_
      refine (R_pure0 (ins := .istore 9) (len := 2) (loc' := [.ref 68, .int x1, .int x2, .int x3, .int x4, .int x5, .int x6, .int x7, .int (mi 83 x7.toNatClampNeg), .int (mi 85 (mi 83 x7.toNatClampNeg).toNatClampNeg)]) (st' := []) (by decide +kernel) (fun _ => rfl)).trans ?_
      refine (R_pure0 (ins := .aload_n 0) (len := 1) (loc' := [.ref 68, .int x1, .int x2, .int x3, .int x4, .int x5, .int x6, .int x7, .int (mi 83 x7.toNatClampNeg), .int (mi 85 (mi 83 x7.toNatClampNeg).toNatClampNeg)]) (st' := [.ref 68]) (by decide +kernel) (fun _ => rfl)).trans ?_
      refine (R_gr (i := 63) (ci := 10) (k := 24) (n := 33) (b := 85) (by decide +kernel) (by decide +kernel) (by decide) rfl (SH_ref (by decide +kernel))).trans ?_
      refine (R_pure0 (ins := .iload 8) (len := 2) (loc' := [.ref 68, .int x1, .int x2, .int x3, .int x4, .int x5, .int x6, .int x7, .int (mi 83 x7.toNatClampNeg), .int (mi 85 (mi 83 x7.toNatClampNeg).toNatClampNeg)]) (st' := [.int (mi 83 x7.toNatClampNeg), .ref 85]) (by decide +kernel) (fun _ => rfl)).trans ?_
      refine (R_pure0 (ins := .dup2) (len := 1) (loc' := [.ref 68, .int x1, .int x2, .int x3, .int x4, .int x5, .int x6, .int x7, .int (mi 83 x7.toNatClampNeg), .int (mi 85 (mi 83 x7.toNatClampNeg).toNatClampNeg)]) (st' := [.int (mi 83 x7.toNatClampNeg), .ref 85, .int (mi 83 x7.toNatClampNeg), .ref 85]) (by decide +kernel) (fun _ => rfl)).trans ?_
      refine (R_iaload (kd := 100) (n := 6) (by decide +kernel) rfl (by decide) (h3 c0 c1)).trans ?_
      refine (R_iconst (n := 1) (v := 1) (by decide +kernel) (by decide +kernel)).trans ?_
      refine (R_pure0 (ins := .iadd) (len := 1) (loc' := [.ref 68, .int x1, .int x2, .int x3, .int x4, .int x5, .int x6, .int x7, .int (mi 83 x7.toNatClampNeg), .int (mi 85 (mi 83 x7.toNatClampNeg).toNatClampNeg)]) (st' := [.int ((mi 85 (mi 83 x7.toNatClampNeg).toNatClampNeg) + 1), .int (mi 83 x7.toNatClampNeg), .ref 85]) (by decide +kernel) (fun _ => rfl)).trans ?_
      refine (R_iastore (n := 6) (by decide +kernel) rfl (h4 c0 c1)).trans ?_
      refine (R_pure0 (ins := .iload 9) (len := 2) (loc' := [.ref 68, .int x1, .int x2, .int x3, .int x4, .int x5, .int x6, .int x7, .int (mi 83 x7.toNatClampNeg), .int (mi 85 (mi 83 x7.toNatClampNeg).toNatClampNeg)]) (st' := [.int (mi 85 (mi 83 x7.toNatClampNeg).toNatClampNeg)]) (by decide +kernel) (fun _ => rfl)).trans ?_
      refine (R_bipush (n := 9) (v := 9) (by decide +kernel) (by decide +kernel)).trans ?_
      refine (R_icmp_ge (off := 49) (t := 169) (by decide +kernel) (by decide +kernel)).trans (ite_congr rfl (fun c2 => ?_) (fun c2 => ?_))
      · refine (R_pure0 (ins := .aload_n 0) (len := 1) (loc' := [.ref 68, .int x1, .int x2, .int x3, .int x4, .int x5, .int x6, .int x7, .int (mi 83 x7.toNatClampNeg), .int (mi 85 (mi 83 x7.toNatClampNeg).toNatClampNeg)]) (st' := [.ref 68]) (by decide +kernel) (fun _ => rfl)).trans ?_
        refine (R_pure0 (ins := .iload 8) (len := 2) (loc' := [.ref 68, .int x1, .int x2, .int x3, .int x4, .int x5, .int x6, .int x7, .int (mi 83 x7.toNatClampNeg), .int (mi 85 (mi 83 x7.toNatClampNeg).toNatClampNeg)]) (st' := [.int (mi 83 x7.toNatClampNeg), .ref 68]) (by decide +kernel) (fun _ => rfl)).trans ?_
        refine (R_pure0 (ins := .iload 9) (len := 2) (loc' := [.ref 68, .int x1, .int x2, .int x3, .int x4, .int x5, .int x6, .int x7, .int (mi 83 x7.toNatClampNeg), .int (mi 85 (mi 83 x7.toNatClampNeg).toNatClampNeg)]) (st' := [.int (mi 85 (mi 83 x7.toNatClampNeg).toNatClampNeg), .int (mi 83 x7.toNatClampNeg), .ref 68]) (by decide +kernel) (fun _ => rfl)).trans ?_
        refine (R_virt (i := 178) (f := 180) (kd := 0) (na := 2) (ml := 3) (ci := 10) (n := 33) (b := 68) (As := [.int (mi 83 x7.toNatClampNeg), .int (mi 85 (mi 83 x7.toNatClampNeg).toNatClampNeg)]) (rest := []) (by decide +kernel) (by decide +kernel) (by decide) (by decide +kernel) rfl (by decide +kernel) rfl rfl (by decide +kernel) (Nat.le_of_ble_eq_true rfl)).trans ?_
        rfl
      · refine (R_ldc (i := 218) (v := 1000000) (by decide +kernel) (by decide +kernel)).trans ?_
        refine (R_pure0 (ins := .istore 6) (len := 2) (loc' := [.ref 68, .int x1, .int x2, .int x3, .int x4, .int x5, .int 1000000, .int x7, .int (mi 83 x7.toNatClampNeg), .int (mi 85 (mi 83 x7.toNatClampNeg).toNatClampNeg)]) (st' := []) (by decide +kernel) (fun _ => rfl)).trans ?_
        refine (R_iinc (k := 7) (n := 1) (x := x7) (v := (x7 + 1)) (loc' := [.ref 68, .int x1, .int x2, .int x3, .int x4, .int x5, .int 1000000, .int (x7 + 1), .int (mi 83 x7.toNatClampNeg), .int (mi 85 (mi 83 x7.toNatClampNeg).toNatClampNeg)]) (by decide +kernel) rfl rfl rfl).trans ?_
        refine (R_goto (off := (-103)) (t := 73) (by decide +kernel) (by decide +kernel)).trans ?_
        rfl
    · refine (R_pure0 (ins := .iload 6) (len := 2) (loc' := [.ref 68, .int x1, .int x2, .int x3, .int x4, .int x5, .int x6, .int x7, xmk, xmk]) (st' := [.int x6]) (by decide +kernel) (fun _ => rfl)).trans ?_
      exact R_ireturn (by decide +kernel) (by decide +kernel)
  · refine (R_pure0 (ins := .iload 6) (len := 2) (loc' := [.ref 68, .int x1, .int x2, .int x3, .int x4, .int x5, .int x6, .int x7, xmk, xmk]) (st' := [.int x6]) (by decide +kernel) (fun _ => rfl)).trans ?_
    exact R_ireturn (by decide +kernel) (by decide +kernel)
theorem s208_131 {L : Nat} {mi : Nat → Nat → Int32} {ml : Nat → Nat → Int64} {d : Nat} {Q : Option Value → xM → Prop} {x1 x2 x3 x4 x5 x6 x7 x8 x9 y : Int32} (h1 : xin ((40 * x2) + x7) 240 = true) (h2 : (y = (mi 70 ((40 * x2) + x7).toNatClampNeg)) → xin (0 + x8) 15 = true) : X 208 131 [.ref 68, .int x1, .int x2, .int x3, .int x4, .int x5, .int x6, .int x7, .int x8, .int x9] [.int y] (SH L, mi, ml, MR) (d + 1) Q =
    if (y = (mi 70 ((40 * x2) + x7).toNatClampNeg)) then (Xm 203 [.ref 68, .int x8, .int x9, .int (mi 77 (0 + x8).toNatClampNeg), .int x6, .int x3] (SH L, mi, ml, MR) d (fun v μ' => X 208 166 [.ref 68, .int x1, .int x2, .int x3, .int x4, .int x5, .int x6, .int x7, .int x8, .int x9] (v.toList ++ []) μ' (d + 1) Q)) else (X 208 73 [.ref 68, .int x1, .int x2, .int x3, .int x4, .int x5, .int 1000000, .int (x7 + 1), .int x8, .int x9] [] (SH L, mi, ml, MR) (d + 1) Q) := by
  refine (R_pure0 (ins := .aload_n 0) (len := 1) (loc' := [.ref 68, .int x1, .int x2, .int x3, .int x4, .int x5, .int x6, .int x7, .int x8, .int x9]) (st' := [.ref 68, .int y]) (by decide +kernel) (fun _ => rfl)).trans ?_
  refine (R_gr (i := 13) (ci := 10) (k := 1) (n := 33) (b := 70) (by decide +kernel) (by decide +kernel) (by decide) rfl (SH_ref (by decide +kernel))).trans ?_
  refine (R_bipush (n := 40) (v := 40) (by decide +kernel) (by decide +kernel)).trans ?_
  refine (R_pure0 (ins := .iload_n 2) (len := 1) (loc' := [.ref 68, .int x1, .int x2, .int x3, .int x4, .int x5, .int x6, .int x7, .int x8, .int x9]) (st' := [.int x2, .int 40, .ref 70, .int y]) (by decide +kernel) (fun _ => rfl)).trans ?_
  refine (R_pure0 (ins := .imul) (len := 1) (loc' := [.ref 68, .int x1, .int x2, .int x3, .int x4, .int x5, .int x6, .int x7, .int x8, .int x9]) (st' := [.int (40 * x2), .ref 70, .int y]) (by decide +kernel) (fun _ => rfl)).trans ?_
  refine (R_pure0 (ins := .iload 7) (len := 2) (loc' := [.ref 68, .int x1, .int x2, .int x3, .int x4, .int x5, .int x6, .int x7, .int x8, .int x9]) (st' := [.int x7, .int (40 * x2), .ref 70, .int y]) (by decide +kernel) (fun _ => rfl)).trans ?_
  refine (R_pure0 (ins := .iadd) (len := 1) (loc' := [.ref 68, .int x1, .int x2, .int x3, .int x4, .int x5, .int x6, .int x7, .int x8, .int x9]) (st' := [.int ((40 * x2) + x7), .ref 70, .int y]) (by decide +kernel) (fun _ => rfl)).trans ?_
  refine (R_iaload (kd := 100) (n := 240) (by decide +kernel) rfl (by decide) (h1)).trans ?_
  refine (R_icmp_ne (off := 26) (t := 169) (by decide +kernel) (by decide +kernel)).trans (ite_congr rfl (fun c0 => ?_) (fun c0 => ?_))
  · refine (R_pure0 (ins := .aload_n 0) (len := 1) (loc' := [.ref 68, .int x1, .int x2, .int x3, .int x4, .int x5, .int x6, .int x7, .int x8, .int x9]) (st' := [.ref 68]) (by decide +kernel) (fun _ => rfl)).trans ?_
    refine (R_pure0 (ins := .iload 8) (len := 2) (loc' := [.ref 68, .int x1, .int x2, .int x3, .int x4, .int x5, .int x6, .int x7, .int x8, .int x9]) (st' := [.int x8, .ref 68]) (by decide +kernel) (fun _ => rfl)).trans ?_
    refine (R_pure0 (ins := .iload 9) (len := 2) (loc' := [.ref 68, .int x1, .int x2, .int x3, .int x4, .int x5, .int x6, .int x7, .int x8, .int x9]) (st' := [.int x9, .int x8, .ref 68]) (by decide +kernel) (fun _ => rfl)).trans ?_
    refine (R_pure0 (ins := .aload_n 0) (len := 1) (loc' := [.ref 68, .int x1, .int x2, .int x3, .int x4, .int x5, .int x6, .int x7, .int x8, .int x9]) (st' := [.ref 68, .int x9, .int x8, .ref 68]) (by decide +kernel) (fun _ => rfl)).trans ?_
    refine (R_gr (i := 34) (ci := 10) (k := 9) (n := 33) (b := 77) (by decide +kernel) (by decide +kernel) (by decide) rfl (SH_ref (by decide +kernel))).trans ?_
    refine (R_iconst (n := 0) (v := 0) (by decide +kernel) (by decide +kernel)).trans ?_
    refine (R_pure0 (ins := .iload 8) (len := 2) (loc' := [.ref 68, .int x1, .int x2, .int x3, .int x4, .int x5, .int x6, .int x7, .int x8, .int x9]) (st' := [.int x8, .int 0, .ref 77, .int x9, .int x8, .ref 68]) (by decide +kernel) (fun _ => rfl)).trans ?_
    refine (R_pure0 (ins := .iadd) (len := 1) (loc' := [.ref 68, .int x1, .int x2, .int x3, .int x4, .int x5, .int x6, .int x7, .int x8, .int x9]) (st' := [.int (0 + x8), .ref 77, .int x9, .int x8, .ref 68]) (by decide +kernel) (fun _ => rfl)).trans ?_
    refine (R_iaload (kd := 100) (n := 15) (by decide +kernel) rfl (by decide) (h2 c0)).trans ?_
    refine (R_pure0 (ins := .iload 6) (len := 2) (loc' := [.ref 68, .int x1, .int x2, .int x3, .int x4, .int x5, .int x6, .int x7, .int x8, .int x9]) (st' := [.int x6, .int (mi 77 (0 + x8).toNatClampNeg), .int x9, .int x8, .ref 68]) (by decide +kernel) (fun _ => rfl)).trans ?_
    refine (R_pure0 (ins := .iload_n 3) (len := 1) (loc' := [.ref 68, .int x1, .int x2, .int x3, .int x4, .int x5, .int x6, .int x7, .int x8, .int x9]) (st' := [.int x3, .int x6, .int (mi 77 (0 + x8).toNatClampNeg), .int x9, .int x8, .ref 68]) (by decide +kernel) (fun _ => rfl)).trans ?_
    refine (R_virt (i := 219) (f := 203) (kd := 0) (na := 5) (ml := 7) (ci := 10) (n := 33) (b := 68) (As := [.int x8, .int x9, .int (mi 77 (0 + x8).toNatClampNeg), .int x6, .int x3]) (rest := []) (by decide +kernel) (by decide +kernel) (by decide) (by decide +kernel) rfl (by decide +kernel) rfl rfl (by decide +kernel) (Nat.le_of_ble_eq_true rfl)).trans ?_
    rfl
  · refine (R_ldc (i := 218) (v := 1000000) (by decide +kernel) (by decide +kernel)).trans ?_
    refine (R_pure0 (ins := .istore 6) (len := 2) (loc' := [.ref 68, .int x1, .int x2, .int x3, .int x4, .int x5, .int 1000000, .int x7, .int x8, .int x9]) (st' := []) (by decide +kernel) (fun _ => rfl)).trans ?_
    refine (R_iinc (k := 7) (n := 1) (x := x7) (v := (x7 + 1)) (loc' := [.ref 68, .int x1, .int x2, .int x3, .int x4, .int x5, .int 1000000, .int (x7 + 1), .int x8, .int x9]) (by decide +kernel) rfl rfl rfl).trans ?_
    refine (R_goto (off := (-103)) (t := 73) (by decide +kernel) (by decide +kernel)).trans ?_
    rfl
theorem s208_73v2 {L : Nat} {mi : Nat → Nat → Int32} {ml : Nat → Nat → Int64} {d : Nat} {Q : Option Value → xM → Prop} {x1 x2 x3 x4 x5 x6 x7 x8 x9 : Int32} (h1 : (x7 < x4) → (x6 < 1000000) → xin x7 5 = true) (h2 : (x7 < x4) → (x6 < 1000000) → xin (mi 83 x7.toNatClampNeg) 6 = true) (h3 : (x7 < x4) → (x6 < 1000000) → xin (mi 83 x7.toNatClampNeg) 6 = true) (h4 : (x7 < x4) → (x6 < 1000000) → xin (mi 83 x7.toNatClampNeg) 6 = true) : X 208 73 [.ref 68, .int x1, .int x2, .int x3, .int x4, .int x5, .int x6, .int x7, .int x8, .int x9] [] (SH L, mi, ml, MR) (d + 1) Q =
    if (x7 < x4) then (if (x6 < 1000000) then (if ((mi 85 (mi 83 x7.toNatClampNeg).toNatClampNeg) < 9) then (Xm 180 [.ref 68, .int (mi 83 x7.toNatClampNeg), .int (mi 85 (mi 83 x7.toNatClampNeg).toNatClampNeg)] (SH L, (xw mi 85 (mi 83 x7.toNatClampNeg).toNatClampNeg ((mi 85 (mi 83 x7.toNatClampNeg).toNatClampNeg) + 1)), ml, MR) d (fun v μ' => X 208 131 [.ref 68, .int x1, .int x2, .int x3, .int x4, .int x5, .int x6, .int x7, .int (mi 83 x7.toNatClampNeg), .int (mi 85 (mi 83 x7.toNatClampNeg).toNatClampNeg)] (v.toList ++ []) μ' (d + 1) Q)) else (X 208 73 [.ref 68, .int x1, .int x2, .int x3, .int x4, .int x5, .int 1000000, .int (x7 + 1), .int (mi 83 x7.toNatClampNeg), .int (mi 85 (mi 83 x7.toNatClampNeg).toNatClampNeg)] [] (SH L, (xw mi 85 (mi 83 x7.toNatClampNeg).toNatClampNeg ((mi 85 (mi 83 x7.toNatClampNeg).toNatClampNeg) + 1)), ml, MR) (d + 1) Q)) else (Q (some (.int x6)) (SH L, mi, ml, MR))) else (Q (some (.int x6)) (SH L, mi, ml, MR)) := by
  refine (R_pure0 (ins := .iload 7) (len := 2) (loc' := [.ref 68, .int x1, .int x2, .int x3, .int x4, .int x5, .int x6, .int x7, .int x8, .int x9]) (st' := [.int x7]) (by decide +kernel) (fun _ => rfl)).trans ?_
  refine (R_pure0 (ins := .iload 4) (len := 2) (loc' := [.ref 68, .int x1, .int x2, .int x3, .int x4, .int x5, .int x6, .int x7, .int x8, .int x9]) (st' := [.int x4, .int x7]) (by decide +kernel) (fun _ => rfl)).trans ?_
  refine (R_icmp_ge (off := 102) (t := 179) (by decide +kernel) (by decide +kernel)).trans (ite_congr rfl (fun c0 => ?_) (fun c0 => ?_))
  · refine (R_pure0 (ins := .iload 6) (len := 2) (loc' := [.ref 68, .int x1, .int x2, .int x3, .int x4, .int x5, .int x6, .int x7, .int x8, .int x9]) (st' := [.int x6]) (by decide +kernel) (fun _ => rfl)).trans ?_
    refine (R_ldc (i := 218) (v := 1000000) (by decide +kernel) (by decide +kernel)).trans ?_
    refine (R_icmp_ge (off := 95) (t := 179) (by decide +kernel) (by decide +kernel)).trans (ite_congr rfl (fun c1 => ?_) (fun c1 => ?_))
    · refine (R_pure0 (ins := .aload_n 0) (len := 1) (loc' := [.ref 68, .int x1, .int x2, .int x3, .int x4, .int x5, .int x6, .int x7, .int x8, .int x9]) (st' := [.ref 68]) (by decide +kernel) (fun _ => rfl)).trans ?_
      refine (R_gr (i := 57) (ci := 10) (k := 22) (n := 33) (b := 83) (by decide +kernel) (by decide +kernel) (by decide) rfl (SH_ref (by decide +kernel))).trans ?_
      refine (R_pure0 (ins := .iload 7) (len := 2) (loc' := [.ref 68, .int x1, .int x2, .int x3, .int x4, .int x5, .int x6, .int x7, .int x8, .int x9]) (st' := [.int x7, .ref 83]) (by decide +kernel) (fun _ => rfl)).trans ?_
      refine (R_iaload (kd := 100) (n := 5) (by decide +kernel) rfl (by decide) (h1 c0 c1)).trans ?_
      refine (R_pure0 (ins := .istore 8) (len := 2) (loc' := [.ref 68, .int x1, .int x2, .int x3, .int x4, .int x5, .int x6, .int x7, .int (mi 83 x7.toNatClampNeg), .int x9]) (st' := []) (by decide +kernel) (fun _ => rfl)).trans ?_
      refine (R_pure0 (ins := .aload_n 0) (len := 1) (loc' := [.ref 68, .int x1, .int x2, .int x3, .int x4, .int x5, .int x6, .int x7, .int (mi 83 x7.toNatClampNeg), .int x9]) (st' := [.ref 68]) (by decide +kernel) (fun _ => rfl)).trans ?_
      refine (R_gr (i := 63) (ci := 10) (k := 24) (n := 33) (b := 85) (by decide +kernel) (by decide +kernel) (by decide) rfl (SH_ref (by decide +kernel))).trans ?_
      refine (R_pure0 (ins := .iload 8) (len := 2) (loc' := [.ref 68, .int x1, .int x2, .int x3, .int x4, .int x5, .int x6, .int x7, .int (mi 83 x7.toNatClampNeg), .int x9]) (st' := [.int (mi 83 x7.toNatClampNeg), .ref 85]) (by decide +kernel) (fun _ => rfl)).trans ?_
      refine (R_iaload (kd := 100) (n := 6) (by decide +kernel) rfl (by decide) (h2 c0 c1)).trans ?_
      refine (R_pure0 (ins := .istore 9) (len := 2) (loc' := [.ref 68, .int x1, .int x2, .int x3, .int x4, .int x5, .int x6, .int x7, .int (mi 83 x7.toNatClampNeg), .int (mi 85 (mi 83 x7.toNatClampNeg).toNatClampNeg)]) (st' := []) (by decide +kernel) (fun _ => rfl)).trans ?_
      refine (R_pure0 (ins := .aload_n 0) (len := 1) (loc' := [.ref 68, .int x1, .int x2, .int x3, .int x4, .int x5, .int x6, .int x7, .int (mi 83 x7.toNatClampNeg), .int (mi 85 (mi 83 x7.toNatClampNeg).toNatClampNeg)]) (st' := [.ref 68]) (by decide +kernel) (fun _ => rfl)).trans ?_
      refine (R_gr (i := 63) (ci := 10) (k := 24) (n := 33) (b := 85) (by decide +kernel) (by decide +kernel) (by decide) rfl (SH_ref (by decide +kernel))).trans ?_
      refine (R_pure0 (ins := .iload 8) (len := 2) (loc' := [.ref 68, .int x1, .int x2, .int x3, .int x4, .int x5, .int x6, .int x7, .int (mi 83 x7.toNatClampNeg), .int (mi 85 (mi 83 x7.toNatClampNeg).toNatClampNeg)]) (st' := [.int (mi 83 x7.toNatClampNeg), .ref 85]) (by decide +kernel) (fun _ => rfl)).trans ?_
      refine (R_pure0 (ins := .dup2) (len := 1) (loc' := [.ref 68, .int x1, .int x2, .int x3, .int x4, .int x5, .int x6, .int x7, .int (mi 83 x7.toNatClampNeg), .int (mi 85 (mi 83 x7.toNatClampNeg).toNatClampNeg)]) (st' := [.int (mi 83 x7.toNatClampNeg), .ref 85, .int (mi 83 x7.toNatClampNeg), .ref 85]) (by decide +kernel) (fun _ => rfl)).trans ?_
      refine (R_iaload (kd := 100) (n := 6) (by decide +kernel) rfl (by decide) (h3 c0 c1)).trans ?_
      refine (R_iconst (n := 1) (v := 1) (by decide +kernel) (by decide +kernel)).trans ?_
      refine (R_pure0 (ins := .iadd) (len := 1) (loc' := [.ref 68, .int x1, .int x2, .int x3, .int x4, .int x5, .int x6, .int x7, .int (mi 83 x7.toNatClampNeg), .int (mi 85 (mi 83 x7.toNatClampNeg).toNatClampNeg)]) (st' := [.int ((mi 85 (mi 83 x7.toNatClampNeg).toNatClampNeg) + 1), .int (mi 83 x7.toNatClampNeg), .ref 85]) (by decide +kernel) (fun _ => rfl)).trans ?_
      refine (R_iastore (n := 6) (by decide +kernel) rfl (h4 c0 c1)).trans ?_
      refine (R_pure0 (ins := .iload 9) (len := 2) (loc' := [.ref 68, .int x1, .int x2, .int x3, .int x4, .int x5, .int x6, .int x7, .int (mi 83 x7.toNatClampNeg), .int (mi 85 (mi 83 x7.toNatClampNeg).toNatClampNeg)]) (st' := [.int (mi 85 (mi 83 x7.toNatClampNeg).toNatClampNeg)]) (by decide +kernel) (fun _ => rfl)).trans ?_
      refine (R_bipush (n := 9) (v := 9) (by decide +kernel) (by decide +kernel)).trans ?_
      refine (R_icmp_ge (off := 49) (t := 169) (by decide +kernel) (by decide +kernel)).trans (ite_congr rfl (fun c2 => ?_) (fun c2 => ?_))
      · refine (R_pure0 (ins := .aload_n 0) (len := 1) (loc' := [.ref 68, .int x1, .int x2, .int x3, .int x4, .int x5, .int x6, .int x7, .int (mi 83 x7.toNatClampNeg), .int (mi 85 (mi 83 x7.toNatClampNeg).toNatClampNeg)]) (st' := [.ref 68]) (by decide +kernel) (fun _ => rfl)).trans ?_
        refine (R_pure0 (ins := .iload 8) (len := 2) (loc' := [.ref 68, .int x1, .int x2, .int x3, .int x4, .int x5, .int x6, .int x7, .int (mi 83 x7.toNatClampNeg), .int (mi 85 (mi 83 x7.toNatClampNeg).toNatClampNeg)]) (st' := [.int (mi 83 x7.toNatClampNeg), .ref 68]) (by decide +kernel) (fun _ => rfl)).trans ?_
        refine (R_pure0 (ins := .iload 9) (len := 2) (loc' := [.ref 68, .int x1, .int x2, .int x3, .int x4, .int x5, .int x6, .int x7, .int (mi 83 x7.toNatClampNeg), .int (mi 85 (mi 83 x7.toNatClampNeg).toNatClampNeg)]) (st' := [.int (mi 85 (mi 83 x7.toNatClampNeg).toNatClampNeg), .int (mi 83 x7.toNatClampNeg), .ref 68]) (by decide +kernel) (fun _ => rfl)).trans ?_
        refine (R_virt (i := 178) (f := 180) (kd := 0) (na := 2) (ml := 3) (ci := 10) (n := 33) (b := 68) (As := [.int (mi 83 x7.toNatClampNeg), .int (mi 85 (mi 83 x7.toNatClampNeg).toNatClampNeg)]) (rest := []) (by decide +kernel) (by decide +kernel) (by decide) (by decide +kernel) rfl (by decide +kernel) rfl rfl (by decide +kernel) (Nat.le_of_ble_eq_true rfl)).trans ?_
        rfl
      · refine (R_ldc (i := 218) (v := 1000000) (by decide +kernel) (by decide +kernel)).trans ?_
        refine (R_pure0 (ins := .istore 6) (len := 2) (loc' := [.ref 68, .int x1, .int x2, .int x3, .int x4, .int x5, .int 1000000, .int x7, .int (mi 83 x7.toNatClampNeg), .int (mi 85 (mi 83 x7.toNatClampNeg).toNatClampNeg)]) (st' := []) (by decide +kernel) (fun _ => rfl)).trans ?_
        refine (R_iinc (k := 7) (n := 1) (x := x7) (v := (x7 + 1)) (loc' := [.ref 68, .int x1, .int x2, .int x3, .int x4, .int x5, .int 1000000, .int (x7 + 1), .int (mi 83 x7.toNatClampNeg), .int (mi 85 (mi 83 x7.toNatClampNeg).toNatClampNeg)]) (by decide +kernel) rfl rfl rfl).trans ?_
        refine (R_goto (off := (-103)) (t := 73) (by decide +kernel) (by decide +kernel)).trans ?_
        rfl
    · refine (R_pure0 (ins := .iload 6) (len := 2) (loc' := [.ref 68, .int x1, .int x2, .int x3, .int x4, .int x5, .int x6, .int x7, .int x8, .int x9]) (st' := [.int x6]) (by decide +kernel) (fun _ => rfl)).trans ?_
      exact R_ireturn (by decide +kernel) (by decide +kernel)
  · refine (R_pure0 (ins := .iload 6) (len := 2) (loc' := [.ref 68, .int x1, .int x2, .int x3, .int x4, .int x5, .int x6, .int x7, .int x8, .int x9]) (st' := [.int x6]) (by decide +kernel) (fun _ => rfl)).trans ?_
    exact R_ireturn (by decide +kernel) (by decide +kernel)
theorem s208_166 {L : Nat} {mi : Nat → Nat → Int32} {ml : Nat → Nat → Int64} {d : Nat} {Q : Option Value → xM → Prop} {x1 x2 x3 x4 x5 x6 x7 x8 x9 y : Int32} : X 208 166 [.ref 68, .int x1, .int x2, .int x3, .int x4, .int x5, .int x6, .int x7, .int x8, .int x9] [.int y] (SH L, mi, ml, MR) d Q =
    X 208 73 [.ref 68, .int x1, .int x2, .int x3, .int x4, .int x5, .int y, .int (x7 + 1), .int x8, .int x9] [] (SH L, mi, ml, MR) d Q := by
  refine (R_goto (off := 5) (t := 171) (by decide +kernel) (by decide +kernel)).trans ?_
  refine (R_pure0 (ins := .istore 6) (len := 2) (loc' := [.ref 68, .int x1, .int x2, .int x3, .int x4, .int x5, .int y, .int x7, .int x8, .int x9]) (st' := []) (by decide +kernel) (fun _ => rfl)).trans ?_
  refine (R_iinc (k := 7) (n := 1) (x := x7) (v := (x7 + 1)) (loc' := [.ref 68, .int x1, .int x2, .int x3, .int x4, .int x5, .int y, .int (x7 + 1), .int x8, .int x9]) (by decide +kernel) rfl rfl rfl).trans ?_
  refine (R_goto (off := (-103)) (t := 73) (by decide +kernel) (by decide +kernel)).trans ?_
  rfl
theorem s209 {L : Nat} {mi : Nat → Nat → Int32} {ml : Nat → Nat → Int64} {d : Nat} {Q : Option Value → xM → Prop} {x1 x2 : Int32} : Xm 209 [.ref 68, .int x1, .int x2] (SH L, mi, ml, MR) (d + 1) Q =
    Xm 155 [.int x1] (SH L, mi, ml, MR) d (fun v μ' => X 209 4 [.ref 68, .int x1, .int x2, xmk, xmk, xmk, xmk, xmk, xmk] (v.toList ++ []) μ' (d + 1) Q) := by
  rw [Xm_ent (n := 9) (loc := [.ref 68, .int x1, .int x2, xmk, xmk, xmk, xmk, xmk, xmk]) (by decide +kernel) rfl]
  refine (R_pure0 (ins := .iload_n 1) (len := 1) (loc' := [.ref 68, .int x1, .int x2, xmk, xmk, xmk, xmk, xmk, xmk]) (st' := [.int x1]) (by decide +kernel) (fun _ => rfl)).trans ?_
  refine (R_static (i := 93) (f := 155) (kd := 2) (na := 1) (ml := 1) (As := [.int x1]) (rest := []) (by decide +kernel) (by decide +kernel) (by decide) (by decide +kernel) rfl rfl (by decide +kernel) (Nat.le_of_ble_eq_true rfl)).trans ?_
  rfl
theorem s209_4 {L : Nat} {mi : Nat → Nat → Int32} {ml : Nat → Nat → Int64} {d : Nat} {Q : Option Value → xM → Prop} {x1 x2 y : Int32} : X 209 4 [.ref 68, .int x1, .int x2, xmk, xmk, xmk, xmk, xmk, xmk] [.int y] (SH L, mi, ml, MR) (d + 1) Q =
    if (y = 0) then (Q (some (.int (-1))) (SH L, mi, ml, MR)) else (Xm 155 [.int x2] (SH L, mi, ml, MR) d (fun v μ' => X 209 11 [.ref 68, .int x1, .int x2, xmk, xmk, xmk, xmk, xmk, xmk] (v.toList ++ []) μ' (d + 1) Q)) := by
  refine (R_if_eq (off := 10) (t := 14) (by decide +kernel) (by decide +kernel)).trans (ite_congr rfl (fun c0 => ?_) (fun c0 => ?_))
  · refine (R_iconst (n := (-1)) (v := (-1)) (by decide +kernel) (by decide +kernel)).trans ?_
    exact R_ireturn (by decide +kernel) (by decide +kernel)
  · refine (R_pure0 (ins := .iload_n 2) (len := 1) (loc' := [.ref 68, .int x1, .int x2, xmk, xmk, xmk, xmk, xmk, xmk]) (st' := [.int x2]) (by decide +kernel) (fun _ => rfl)).trans ?_
    refine (R_static (i := 93) (f := 155) (kd := 2) (na := 1) (ml := 1) (As := [.int x2]) (rest := []) (by decide +kernel) (by decide +kernel) (by decide) (by decide +kernel) rfl rfl (by decide +kernel) (Nat.le_of_ble_eq_true rfl)).trans ?_
    rfl
theorem s209_11 {L : Nat} {mi : Nat → Nat → Int32} {ml : Nat → Nat → Int64} {d : Nat} {Q : Option Value → xM → Prop} {x1 x2 y : Int32} : X 209 11 [.ref 68, .int x1, .int x2, xmk, xmk, xmk, xmk, xmk, xmk] [.int y] (SH L, mi, ml, MR) (d + 1) Q =
    if (y = 0) then (Q (some (.int (-1))) (SH L, mi, ml, MR)) else (Xm 206 [.ref 68, .int x1] (SH L, mi, ml, MR) d (fun v μ' => X 209 21 [.ref 68, .int x1, .int x2, xmk, xmk, xmk, xmk, xmk, xmk] (v.toList ++ []) μ' (d + 1) Q)) := by
  refine (R_if_ne (off := 5) (t := 16) (by decide +kernel) (by decide +kernel)).trans (ite_congr rfl (fun c0 => ?_) (fun c0 => ?_))
  · refine (R_iconst (n := (-1)) (v := (-1)) (by decide +kernel) (by decide +kernel)).trans ?_
    exact R_ireturn (by decide +kernel) (by decide +kernel)
  · refine (R_pure0 (ins := .aload_n 0) (len := 1) (loc' := [.ref 68, .int x1, .int x2, xmk, xmk, xmk, xmk, xmk, xmk]) (st' := [.ref 68]) (by decide +kernel) (fun _ => rfl)).trans ?_
    refine (R_pure0 (ins := .iload_n 1) (len := 1) (loc' := [.ref 68, .int x1, .int x2, xmk, xmk, xmk, xmk, xmk, xmk]) (st' := [.int x1, .ref 68]) (by decide +kernel) (fun _ => rfl)).trans ?_
    refine (R_virt (i := 225) (f := 206) (kd := 0) (na := 1) (ml := 3) (ci := 10) (n := 33) (b := 68) (As := [.int x1]) (rest := []) (by decide +kernel) (by decide +kernel) (by decide) (by decide +kernel) rfl (by decide +kernel) rfl rfl (by decide +kernel) (Nat.le_of_ble_eq_true rfl)).trans ?_
    rfl
theorem s209_21 {L : Nat} {mi : Nat → Nat → Int32} {ml : Nat → Nat → Int64} {d : Nat} {Q : Option Value → xM → Prop} {x1 x2 y : Int32} (h1 : (y = 0) → xin x1 6 = true) : X 209 21 [.ref 68, .int x1, .int x2, xmk, xmk, xmk, xmk, xmk, xmk] [.int y] (SH L, mi, ml, MR) (d + 1) Q =
    if (y = 0) then (Xm 207 [.ref 68, .int (mi 69 x1.toNatClampNeg)] (SH L, mi, ml, MR) d (fun v μ' => X 209 46 [.ref 68, .int x1, .int x2, .int y, .int (mi 69 x1.toNatClampNeg), .int 1000000, xmk, xmk, xmk] (v.toList ++ []) μ' (d + 1) Q)) else (Q (some (.int y)) (SH L, mi, ml, MR)) := by
  refine (R_pure0 (ins := .istore_n 3) (len := 1) (loc' := [.ref 68, .int x1, .int x2, .int y, xmk, xmk, xmk, xmk, xmk]) (st' := []) (by decide +kernel) (fun _ => rfl)).trans ?_
  refine (R_pure0 (ins := .iload_n 3) (len := 1) (loc' := [.ref 68, .int x1, .int x2, .int y, xmk, xmk, xmk, xmk, xmk]) (st' := [.int y]) (by decide +kernel) (fun _ => rfl)).trans ?_
  refine (R_if_eq (off := 5) (t := 28) (by decide +kernel) (by decide +kernel)).trans (ite_congr rfl (fun c0 => ?_) (fun c0 => ?_))
  · refine (R_pure0 (ins := .aload_n 0) (len := 1) (loc' := [.ref 68, .int x1, .int x2, .int y, xmk, xmk, xmk, xmk, xmk]) (st' := [.ref 68]) (by decide +kernel) (fun _ => rfl)).trans ?_
    refine (R_gr (i := 7) (ci := 10) (k := 0) (n := 33) (b := 69) (by decide +kernel) (by decide +kernel) (by decide) rfl (SH_ref (by decide +kernel))).trans ?_
    refine (R_pure0 (ins := .iload_n 1) (len := 1) (loc' := [.ref 68, .int x1, .int x2, .int y, xmk, xmk, xmk, xmk, xmk]) (st' := [.int x1, .ref 69]) (by decide +kernel) (fun _ => rfl)).trans ?_
    refine (R_iaload (kd := 100) (n := 6) (by decide +kernel) rfl (by decide) (h1 c0)).trans ?_
    refine (R_pure0 (ins := .istore 4) (len := 2) (loc' := [.ref 68, .int x1, .int x2, .int y, .int (mi 69 x1.toNatClampNeg), xmk, xmk, xmk, xmk]) (st' := []) (by decide +kernel) (fun _ => rfl)).trans ?_
    refine (R_ldc (i := 218) (v := 1000000) (by decide +kernel) (by decide +kernel)).trans ?_
    refine (R_pure0 (ins := .istore 5) (len := 2) (loc' := [.ref 68, .int x1, .int x2, .int y, .int (mi 69 x1.toNatClampNeg), .int 1000000, xmk, xmk, xmk]) (st' := []) (by decide +kernel) (fun _ => rfl)).trans ?_
    refine (R_pure0 (ins := .aload_n 0) (len := 1) (loc' := [.ref 68, .int x1, .int x2, .int y, .int (mi 69 x1.toNatClampNeg), .int 1000000, xmk, xmk, xmk]) (st' := [.ref 68]) (by decide +kernel) (fun _ => rfl)).trans ?_
    refine (R_pure0 (ins := .iload 4) (len := 2) (loc' := [.ref 68, .int x1, .int x2, .int y, .int (mi 69 x1.toNatClampNeg), .int 1000000, xmk, xmk, xmk]) (st' := [.int (mi 69 x1.toNatClampNeg), .ref 68]) (by decide +kernel) (fun _ => rfl)).trans ?_
    refine (R_virt (i := 228) (f := 207) (kd := 0) (na := 1) (ml := 4) (ci := 10) (n := 33) (b := 68) (As := [.int (mi 69 x1.toNatClampNeg)]) (rest := []) (by decide +kernel) (by decide +kernel) (by decide) (by decide +kernel) rfl (by decide +kernel) rfl rfl (by decide +kernel) (Nat.le_of_ble_eq_true rfl)).trans ?_
    rfl
  · refine (R_pure0 (ins := .iload_n 3) (len := 1) (loc' := [.ref 68, .int x1, .int x2, .int y, xmk, xmk, xmk, xmk, xmk]) (st' := [.int y]) (by decide +kernel) (fun _ => rfl)).trans ?_
    exact R_ireturn (by decide +kernel) (by decide +kernel)
theorem s209_46 {L : Nat} {mi : Nat → Nat → Int32} {ml : Nat → Nat → Int64} {d : Nat} {Q : Option Value → xM → Prop} {x1 x2 x3 x4 x5 y : Int32} : X 209 46 [.ref 68, .int x1, .int x2, .int x3, .int x4, .int x5, xmk, xmk, xmk] [.int y] (SH L, mi, ml, MR) d Q =
    X 209 51 [.ref 68, .int x1, .int x2, .int x3, .int x4, .int x5, .int y, .int 0, xmk] [] (SH L, mi, ml, MR) d Q := by
  refine (R_pure0 (ins := .istore 6) (len := 2) (loc' := [.ref 68, .int x1, .int x2, .int x3, .int x4, .int x5, .int y, xmk, xmk]) (st' := []) (by decide +kernel) (fun _ => rfl)).trans ?_
  refine (R_iconst (n := 0) (v := 0) (by decide +kernel) (by decide +kernel)).trans ?_
  refine (R_pure0 (ins := .istore 7) (len := 2) (loc' := [.ref 68, .int x1, .int x2, .int x3, .int x4, .int x5, .int y, .int 0, xmk]) (st' := []) (by decide +kernel) (fun _ => rfl)).trans ?_
  rfl
theorem s209_51 {L : Nat} {mi : Nat → Nat → Int32} {ml : Nat → Nat → Int64} {d : Nat} {Q : Option Value → xM → Prop} {x1 x2 x3 x4 x5 x6 x7 : Int32} : X 209 51 [.ref 68, .int x1, .int x2, .int x3, .int x4, .int x5, .int x6, .int x7, xmk] [] (SH L, mi, ml, MR) (d + 1) Q =
    if (x7 < x6) then (Xm 208 [.ref 68, .int x7, .int x1, .int 60] (SH L, mi, ml, MR) d (fun v μ' => X 209 67 [.ref 68, .int x1, .int x2, .int x3, .int x4, .int x5, .int x6, .int x7, xmk] (v.toList ++ []) μ' (d + 1) Q)) else (if (x5 = 1000000) then (Q (some (.int (-9))) (SH L, mi, ml, MR)) else (Xm 188 [.ref 84, .int 0, .ref 70, .int (40 * x2), .int x4] (SH L, mi, ml, MR) d (fun v μ' => X 209 128 [.ref 68, .int x1, .int x2, .int x3, .int x4, .int x5, .int x6, .int x7, xmk] (v.toList ++ []) μ' (d + 1) Q))) := by
  refine (R_pure0 (ins := .iload 7) (len := 2) (loc' := [.ref 68, .int x1, .int x2, .int x3, .int x4, .int x5, .int x6, .int x7, xmk]) (st' := [.int x7]) (by decide +kernel) (fun _ => rfl)).trans ?_
  refine (R_pure0 (ins := .iload 6) (len := 2) (loc' := [.ref 68, .int x1, .int x2, .int x3, .int x4, .int x5, .int x6, .int x7, xmk]) (st' := [.int x6, .int x7]) (by decide +kernel) (fun _ => rfl)).trans ?_
  refine (R_icmp_ge (off := 45) (t := 100) (by decide +kernel) (by decide +kernel)).trans (ite_congr rfl (fun c0 => ?_) (fun c0 => ?_))
  · refine (R_pure0 (ins := .aload_n 0) (len := 1) (loc' := [.ref 68, .int x1, .int x2, .int x3, .int x4, .int x5, .int x6, .int x7, xmk]) (st' := [.ref 68]) (by decide +kernel) (fun _ => rfl)).trans ?_
    refine (R_pure0 (ins := .iload 7) (len := 2) (loc' := [.ref 68, .int x1, .int x2, .int x3, .int x4, .int x5, .int x6, .int x7, xmk]) (st' := [.int x7, .ref 68]) (by decide +kernel) (fun _ => rfl)).trans ?_
    refine (R_pure0 (ins := .iload_n 1) (len := 1) (loc' := [.ref 68, .int x1, .int x2, .int x3, .int x4, .int x5, .int x6, .int x7, xmk]) (st' := [.int x1, .int x7, .ref 68]) (by decide +kernel) (fun _ => rfl)).trans ?_
    refine (R_bipush (n := 60) (v := 60) (by decide +kernel) (by decide +kernel)).trans ?_
    refine (R_virt (i := 231) (f := 208) (kd := 0) (na := 3) (ml := 10) (ci := 10) (n := 33) (b := 68) (As := [.int x7, .int x1, .int 60]) (rest := []) (by decide +kernel) (by decide +kernel) (by decide) (by decide +kernel) rfl (by decide +kernel) rfl rfl (by decide +kernel) (Nat.le_of_ble_eq_true rfl)).trans ?_
    rfl
  · refine (R_pure0 (ins := .iload 5) (len := 2) (loc' := [.ref 68, .int x1, .int x2, .int x3, .int x4, .int x5, .int x6, .int x7, xmk]) (st' := [.int x5]) (by decide +kernel) (fun _ => rfl)).trans ?_
    refine (R_ldc (i := 218) (v := 1000000) (by decide +kernel) (by decide +kernel)).trans ?_
    refine (R_icmp_ne (off := 6) (t := 110) (by decide +kernel) (by decide +kernel)).trans (ite_congr rfl (fun c1 => ?_) (fun c1 => ?_))
    · refine (R_bipush (n := (-9)) (v := (-9)) (by decide +kernel) (by decide +kernel)).trans ?_
      exact R_ireturn (by decide +kernel) (by decide +kernel)
    · refine (R_pure0 (ins := .aload_n 0) (len := 1) (loc' := [.ref 68, .int x1, .int x2, .int x3, .int x4, .int x5, .int x6, .int x7, xmk]) (st' := [.ref 68]) (by decide +kernel) (fun _ => rfl)).trans ?_
      refine (R_gr (i := 60) (ci := 10) (k := 23) (n := 33) (b := 84) (by decide +kernel) (by decide +kernel) (by decide) rfl (SH_ref (by decide +kernel))).trans ?_
      refine (R_iconst (n := 0) (v := 0) (by decide +kernel) (by decide +kernel)).trans ?_
      refine (R_pure0 (ins := .aload_n 0) (len := 1) (loc' := [.ref 68, .int x1, .int x2, .int x3, .int x4, .int x5, .int x6, .int x7, xmk]) (st' := [.ref 68, .int 0, .ref 84]) (by decide +kernel) (fun _ => rfl)).trans ?_
      refine (R_gr (i := 13) (ci := 10) (k := 1) (n := 33) (b := 70) (by decide +kernel) (by decide +kernel) (by decide) rfl (SH_ref (by decide +kernel))).trans ?_
      refine (R_bipush (n := 40) (v := 40) (by decide +kernel) (by decide +kernel)).trans ?_
      refine (R_pure0 (ins := .iload_n 2) (len := 1) (loc' := [.ref 68, .int x1, .int x2, .int x3, .int x4, .int x5, .int x6, .int x7, xmk]) (st' := [.int x2, .int 40, .ref 70, .int 0, .ref 84]) (by decide +kernel) (fun _ => rfl)).trans ?_
      refine (R_pure0 (ins := .imul) (len := 1) (loc' := [.ref 68, .int x1, .int x2, .int x3, .int x4, .int x5, .int x6, .int x7, xmk]) (st' := [.int (40 * x2), .ref 70, .int 0, .ref 84]) (by decide +kernel) (fun _ => rfl)).trans ?_
      refine (R_pure0 (ins := .iload 4) (len := 2) (loc' := [.ref 68, .int x1, .int x2, .int x3, .int x4, .int x5, .int x6, .int x7, xmk]) (st' := [.int x4, .int (40 * x2), .ref 70, .int 0, .ref 84]) (by decide +kernel) (fun _ => rfl)).trans ?_
      refine (R_static (i := 184) (f := 188) (kd := 2) (na := 5) (ml := 6) (As := [.ref 84, .int 0, .ref 70, .int (40 * x2), .int x4]) (rest := []) (by decide +kernel) (by decide +kernel) (by decide) (by decide +kernel) rfl rfl (by decide +kernel) (Nat.le_of_ble_eq_true rfl)).trans ?_
      rfl
theorem s209_67 {L : Nat} {mi : Nat → Nat → Int32} {ml : Nat → Nat → Int64} {d : Nat} {Q : Option Value → xM → Prop} {x1 x2 x3 x4 x5 x6 x7 y : Int32} : X 209 67 [.ref 68, .int x1, .int x2, .int x3, .int x4, .int x5, .int x6, .int x7, xmk] [.int y] (SH L, mi, ml, MR) (d + 1) Q =
    if (y < x5) then (Xm 188 [.ref 83, .int 0, .ref 84, .int 0, .int 5] (SH L, mi, ml, MR) d (fun v μ' => X 209 94 [.ref 68, .int x1, .int x2, .int x3, .int x4, .int y, .int x6, .int x7, .int y] (v.toList ++ []) μ' (d + 1) Q)) else (X 209 51 [.ref 68, .int x1, .int x2, .int x3, .int x4, .int x5, .int x6, .int (x7 + 1), .int y] [] (SH L, mi, ml, MR) (d + 1) Q) := by
  refine (R_pure0 (ins := .istore 8) (len := 2) (loc' := [.ref 68, .int x1, .int x2, .int x3, .int x4, .int x5, .int x6, .int x7, .int y]) (st' := []) (by decide +kernel) (fun _ => rfl)).trans ?_
  refine (R_pure0 (ins := .iload 8) (len := 2) (loc' := [.ref 68, .int x1, .int x2, .int x3, .int x4, .int x5, .int x6, .int x7, .int y]) (st' := [.int y]) (by decide +kernel) (fun _ => rfl)).trans ?_
  refine (R_pure0 (ins := .iload 5) (len := 2) (loc' := [.ref 68, .int x1, .int x2, .int x3, .int x4, .int x5, .int x6, .int x7, .int y]) (st' := [.int x5, .int y]) (by decide +kernel) (fun _ => rfl)).trans ?_
  refine (R_icmp_ge (off := 21) (t := 94) (by decide +kernel) (by decide +kernel)).trans (ite_congr rfl (fun c0 => ?_) (fun c0 => ?_))
  · refine (R_pure0 (ins := .iload 8) (len := 2) (loc' := [.ref 68, .int x1, .int x2, .int x3, .int x4, .int x5, .int x6, .int x7, .int y]) (st' := [.int y]) (by decide +kernel) (fun _ => rfl)).trans ?_
    refine (R_pure0 (ins := .istore 5) (len := 2) (loc' := [.ref 68, .int x1, .int x2, .int x3, .int x4, .int y, .int x6, .int x7, .int y]) (st' := []) (by decide +kernel) (fun _ => rfl)).trans ?_
    refine (R_pure0 (ins := .aload_n 0) (len := 1) (loc' := [.ref 68, .int x1, .int x2, .int x3, .int x4, .int y, .int x6, .int x7, .int y]) (st' := [.ref 68]) (by decide +kernel) (fun _ => rfl)).trans ?_
    refine (R_gr (i := 57) (ci := 10) (k := 22) (n := 33) (b := 83) (by decide +kernel) (by decide +kernel) (by decide) rfl (SH_ref (by decide +kernel))).trans ?_
    refine (R_iconst (n := 0) (v := 0) (by decide +kernel) (by decide +kernel)).trans ?_
    refine (R_pure0 (ins := .aload_n 0) (len := 1) (loc' := [.ref 68, .int x1, .int x2, .int x3, .int x4, .int y, .int x6, .int x7, .int y]) (st' := [.ref 68, .int 0, .ref 83]) (by decide +kernel) (fun _ => rfl)).trans ?_
    refine (R_gr (i := 60) (ci := 10) (k := 23) (n := 33) (b := 84) (by decide +kernel) (by decide +kernel) (by decide) rfl (SH_ref (by decide +kernel))).trans ?_
    refine (R_iconst (n := 0) (v := 0) (by decide +kernel) (by decide +kernel)).trans ?_
    refine (R_iconst (n := 5) (v := 5) (by decide +kernel) (by decide +kernel)).trans ?_
    refine (R_static (i := 184) (f := 188) (kd := 2) (na := 5) (ml := 6) (As := [.ref 83, .int 0, .ref 84, .int 0, .int 5]) (rest := []) (by decide +kernel) (by decide +kernel) (by decide) (by decide +kernel) rfl rfl (by decide +kernel) (Nat.le_of_ble_eq_true rfl)).trans ?_
    rfl
  · refine (R_iinc (k := 7) (n := 1) (x := x7) (v := (x7 + 1)) (loc' := [.ref 68, .int x1, .int x2, .int x3, .int x4, .int x5, .int x6, .int (x7 + 1), .int y]) (by decide +kernel) rfl rfl rfl).trans ?_
    refine (R_goto (off := (-46)) (t := 51) (by decide +kernel) (by decide +kernel)).trans ?_
    rfl
theorem s209_128 {L : Nat} {mi : Nat → Nat → Int32} {ml : Nat → Nat → Int64} {d : Nat} {Q : Option Value → xM → Prop} {x1 x2 x3 x4 x5 x6 x7 : Int32} (h1 : xin x2 6 = true) : X 209 128 [.ref 68, .int x1, .int x2, .int x3, .int x4, .int x5, .int x6, .int x7, xmk] [] (SH L, mi, ml, MR) d Q =
    Q (some (.int x5)) (SH L, (xw mi 69 x2.toNatClampNeg x4), ml, MR) := by
  refine (R_pure0 (ins := .aload_n 0) (len := 1) (loc' := [.ref 68, .int x1, .int x2, .int x3, .int x4, .int x5, .int x6, .int x7, xmk]) (st' := [.ref 68]) (by decide +kernel) (fun _ => rfl)).trans ?_
  refine (R_gr (i := 7) (ci := 10) (k := 0) (n := 33) (b := 69) (by decide +kernel) (by decide +kernel) (by decide) rfl (SH_ref (by decide +kernel))).trans ?_
  refine (R_pure0 (ins := .iload_n 2) (len := 1) (loc' := [.ref 68, .int x1, .int x2, .int x3, .int x4, .int x5, .int x6, .int x7, xmk]) (st' := [.int x2, .ref 69]) (by decide +kernel) (fun _ => rfl)).trans ?_
  refine (R_pure0 (ins := .iload 4) (len := 2) (loc' := [.ref 68, .int x1, .int x2, .int x3, .int x4, .int x5, .int x6, .int x7, xmk]) (st' := [.int x4, .int x2, .ref 69]) (by decide +kernel) (fun _ => rfl)).trans ?_
  refine (R_iastore (n := 6) (by decide +kernel) rfl (h1)).trans ?_
  refine (R_pure0 (ins := .iload 5) (len := 2) (loc' := [.ref 68, .int x1, .int x2, .int x3, .int x4, .int x5, .int x6, .int x7, xmk]) (st' := [.int x5]) (by decide +kernel) (fun _ => rfl)).trans ?_
  exact R_ireturn (by decide +kernel) (by decide +kernel)
theorem s209_94 {L : Nat} {mi : Nat → Nat → Int32} {ml : Nat → Nat → Int64} {d : Nat} {Q : Option Value → xM → Prop} {x1 x2 x3 x4 x5 x6 x7 x8 : Int32} : X 209 94 [.ref 68, .int x1, .int x2, .int x3, .int x4, .int x5, .int x6, .int x7, .int x8] [] (SH L, mi, ml, MR) d Q =
    X 209 51 [.ref 68, .int x1, .int x2, .int x3, .int x4, .int x5, .int x6, .int (x7 + 1), .int x8] [] (SH L, mi, ml, MR) d Q := by
  refine (R_iinc (k := 7) (n := 1) (x := x7) (v := (x7 + 1)) (loc' := [.ref 68, .int x1, .int x2, .int x3, .int x4, .int x5, .int x6, .int (x7 + 1), .int x8]) (by decide +kernel) rfl rfl rfl).trans ?_
  refine (R_goto (off := (-46)) (t := 51) (by decide +kernel) (by decide +kernel)).trans ?_
  rfl
theorem s209_51v2 {L : Nat} {mi : Nat → Nat → Int32} {ml : Nat → Nat → Int64} {d : Nat} {Q : Option Value → xM → Prop} {x1 x2 x3 x4 x5 x6 x7 x8 : Int32} : X 209 51 [.ref 68, .int x1, .int x2, .int x3, .int x4, .int x5, .int x6, .int x7, .int x8] [] (SH L, mi, ml, MR) (d + 1) Q =
    if (x7 < x6) then (Xm 208 [.ref 68, .int x7, .int x1, .int 60] (SH L, mi, ml, MR) d (fun v μ' => X 209 67 [.ref 68, .int x1, .int x2, .int x3, .int x4, .int x5, .int x6, .int x7, .int x8] (v.toList ++ []) μ' (d + 1) Q)) else (if (x5 = 1000000) then (Q (some (.int (-9))) (SH L, mi, ml, MR)) else (Xm 188 [.ref 84, .int 0, .ref 70, .int (40 * x2), .int x4] (SH L, mi, ml, MR) d (fun v μ' => X 209 128 [.ref 68, .int x1, .int x2, .int x3, .int x4, .int x5, .int x6, .int x7, .int x8] (v.toList ++ []) μ' (d + 1) Q))) := by
  refine (R_pure0 (ins := .iload 7) (len := 2) (loc' := [.ref 68, .int x1, .int x2, .int x3, .int x4, .int x5, .int x6, .int x7, .int x8]) (st' := [.int x7]) (by decide +kernel) (fun _ => rfl)).trans ?_
  refine (R_pure0 (ins := .iload 6) (len := 2) (loc' := [.ref 68, .int x1, .int x2, .int x3, .int x4, .int x5, .int x6, .int x7, .int x8]) (st' := [.int x6, .int x7]) (by decide +kernel) (fun _ => rfl)).trans ?_
  refine (R_icmp_ge (off := 45) (t := 100) (by decide +kernel) (by decide +kernel)).trans (ite_congr rfl (fun c0 => ?_) (fun c0 => ?_))
  · refine (R_pure0 (ins := .aload_n 0) (len := 1) (loc' := [.ref 68, .int x1, .int x2, .int x3, .int x4, .int x5, .int x6, .int x7, .int x8]) (st' := [.ref 68]) (by decide +kernel) (fun _ => rfl)).trans ?_
    refine (R_pure0 (ins := .iload 7) (len := 2) (loc' := [.ref 68, .int x1, .int x2, .int x3, .int x4, .int x5, .int x6, .int x7, .int x8]) (st' := [.int x7, .ref 68]) (by decide +kernel) (fun _ => rfl)).trans ?_
    refine (R_pure0 (ins := .iload_n 1) (len := 1) (loc' := [.ref 68, .int x1, .int x2, .int x3, .int x4, .int x5, .int x6, .int x7, .int x8]) (st' := [.int x1, .int x7, .ref 68]) (by decide +kernel) (fun _ => rfl)).trans ?_
    refine (R_bipush (n := 60) (v := 60) (by decide +kernel) (by decide +kernel)).trans ?_
    refine (R_virt (i := 231) (f := 208) (kd := 0) (na := 3) (ml := 10) (ci := 10) (n := 33) (b := 68) (As := [.int x7, .int x1, .int 60]) (rest := []) (by decide +kernel) (by decide +kernel) (by decide) (by decide +kernel) rfl (by decide +kernel) rfl rfl (by decide +kernel) (Nat.le_of_ble_eq_true rfl)).trans ?_
    rfl
  · refine (R_pure0 (ins := .iload 5) (len := 2) (loc' := [.ref 68, .int x1, .int x2, .int x3, .int x4, .int x5, .int x6, .int x7, .int x8]) (st' := [.int x5]) (by decide +kernel) (fun _ => rfl)).trans ?_
    refine (R_ldc (i := 218) (v := 1000000) (by decide +kernel) (by decide +kernel)).trans ?_
    refine (R_icmp_ne (off := 6) (t := 110) (by decide +kernel) (by decide +kernel)).trans (ite_congr rfl (fun c1 => ?_) (fun c1 => ?_))
    · refine (R_bipush (n := (-9)) (v := (-9)) (by decide +kernel) (by decide +kernel)).trans ?_
      exact R_ireturn (by decide +kernel) (by decide +kernel)
    · refine (R_pure0 (ins := .aload_n 0) (len := 1) (loc' := [.ref 68, .int x1, .int x2, .int x3, .int x4, .int x5, .int x6, .int x7, .int x8]) (st' := [.ref 68]) (by decide +kernel) (fun _ => rfl)).trans ?_
      refine (R_gr (i := 60) (ci := 10) (k := 23) (n := 33) (b := 84) (by decide +kernel) (by decide +kernel) (by decide) rfl (SH_ref (by decide +kernel))).trans ?_
      refine (R_iconst (n := 0) (v := 0) (by decide +kernel) (by decide +kernel)).trans ?_
      refine (R_pure0 (ins := .aload_n 0) (len := 1) (loc' := [.ref 68, .int x1, .int x2, .int x3, .int x4, .int x5, .int x6, .int x7, .int x8]) (st' := [.ref 68, .int 0, .ref 84]) (by decide +kernel) (fun _ => rfl)).trans ?_
      refine (R_gr (i := 13) (ci := 10) (k := 1) (n := 33) (b := 70) (by decide +kernel) (by decide +kernel) (by decide) rfl (SH_ref (by decide +kernel))).trans ?_
      refine (R_bipush (n := 40) (v := 40) (by decide +kernel) (by decide +kernel)).trans ?_
      refine (R_pure0 (ins := .iload_n 2) (len := 1) (loc' := [.ref 68, .int x1, .int x2, .int x3, .int x4, .int x5, .int x6, .int x7, .int x8]) (st' := [.int x2, .int 40, .ref 70, .int 0, .ref 84]) (by decide +kernel) (fun _ => rfl)).trans ?_
      refine (R_pure0 (ins := .imul) (len := 1) (loc' := [.ref 68, .int x1, .int x2, .int x3, .int x4, .int x5, .int x6, .int x7, .int x8]) (st' := [.int (40 * x2), .ref 70, .int 0, .ref 84]) (by decide +kernel) (fun _ => rfl)).trans ?_
      refine (R_pure0 (ins := .iload 4) (len := 2) (loc' := [.ref 68, .int x1, .int x2, .int x3, .int x4, .int x5, .int x6, .int x7, .int x8]) (st' := [.int x4, .int (40 * x2), .ref 70, .int 0, .ref 84]) (by decide +kernel) (fun _ => rfl)).trans ?_
      refine (R_static (i := 184) (f := 188) (kd := 2) (na := 5) (ml := 6) (As := [.ref 84, .int 0, .ref 70, .int (40 * x2), .int x4]) (rest := []) (by decide +kernel) (by decide +kernel) (by decide) (by decide +kernel) rfl rfl (by decide +kernel) (Nat.le_of_ble_eq_true rfl)).trans ?_
      rfl
theorem s209_67v2 {L : Nat} {mi : Nat → Nat → Int32} {ml : Nat → Nat → Int64} {d : Nat} {Q : Option Value → xM → Prop} {x1 x2 x3 x4 x5 x6 x7 x8 y : Int32} : X 209 67 [.ref 68, .int x1, .int x2, .int x3, .int x4, .int x5, .int x6, .int x7, .int x8] [.int y] (SH L, mi, ml, MR) (d + 1) Q =
    if (y < x5) then (Xm 188 [.ref 83, .int 0, .ref 84, .int 0, .int 5] (SH L, mi, ml, MR) d (fun v μ' => X 209 94 [.ref 68, .int x1, .int x2, .int x3, .int x4, .int y, .int x6, .int x7, .int y] (v.toList ++ []) μ' (d + 1) Q)) else (X 209 51 [.ref 68, .int x1, .int x2, .int x3, .int x4, .int x5, .int x6, .int (x7 + 1), .int y] [] (SH L, mi, ml, MR) (d + 1) Q) := by
  refine (R_pure0 (ins := .istore 8) (len := 2) (loc' := [.ref 68, .int x1, .int x2, .int x3, .int x4, .int x5, .int x6, .int x7, .int y]) (st' := []) (by decide +kernel) (fun _ => rfl)).trans ?_
  refine (R_pure0 (ins := .iload 8) (len := 2) (loc' := [.ref 68, .int x1, .int x2, .int x3, .int x4, .int x5, .int x6, .int x7, .int y]) (st' := [.int y]) (by decide +kernel) (fun _ => rfl)).trans ?_
  refine (R_pure0 (ins := .iload 5) (len := 2) (loc' := [.ref 68, .int x1, .int x2, .int x3, .int x4, .int x5, .int x6, .int x7, .int y]) (st' := [.int x5, .int y]) (by decide +kernel) (fun _ => rfl)).trans ?_
  refine (R_icmp_ge (off := 21) (t := 94) (by decide +kernel) (by decide +kernel)).trans (ite_congr rfl (fun c0 => ?_) (fun c0 => ?_))
  · refine (R_pure0 (ins := .iload 8) (len := 2) (loc' := [.ref 68, .int x1, .int x2, .int x3, .int x4, .int x5, .int x6, .int x7, .int y]) (st' := [.int y]) (by decide +kernel) (fun _ => rfl)).trans ?_
    refine (R_pure0 (ins := .istore 5) (len := 2) (loc' := [.ref 68, .int x1, .int x2, .int x3, .int x4, .int y, .int x6, .int x7, .int y]) (st' := []) (by decide +kernel) (fun _ => rfl)).trans ?_
    refine (R_pure0 (ins := .aload_n 0) (len := 1) (loc' := [.ref 68, .int x1, .int x2, .int x3, .int x4, .int y, .int x6, .int x7, .int y]) (st' := [.ref 68]) (by decide +kernel) (fun _ => rfl)).trans ?_
    refine (R_gr (i := 57) (ci := 10) (k := 22) (n := 33) (b := 83) (by decide +kernel) (by decide +kernel) (by decide) rfl (SH_ref (by decide +kernel))).trans ?_
    refine (R_iconst (n := 0) (v := 0) (by decide +kernel) (by decide +kernel)).trans ?_
    refine (R_pure0 (ins := .aload_n 0) (len := 1) (loc' := [.ref 68, .int x1, .int x2, .int x3, .int x4, .int y, .int x6, .int x7, .int y]) (st' := [.ref 68, .int 0, .ref 83]) (by decide +kernel) (fun _ => rfl)).trans ?_
    refine (R_gr (i := 60) (ci := 10) (k := 23) (n := 33) (b := 84) (by decide +kernel) (by decide +kernel) (by decide) rfl (SH_ref (by decide +kernel))).trans ?_
    refine (R_iconst (n := 0) (v := 0) (by decide +kernel) (by decide +kernel)).trans ?_
    refine (R_iconst (n := 5) (v := 5) (by decide +kernel) (by decide +kernel)).trans ?_
    refine (R_static (i := 184) (f := 188) (kd := 2) (na := 5) (ml := 6) (As := [.ref 83, .int 0, .ref 84, .int 0, .int 5]) (rest := []) (by decide +kernel) (by decide +kernel) (by decide) (by decide +kernel) rfl rfl (by decide +kernel) (Nat.le_of_ble_eq_true rfl)).trans ?_
    rfl
  · refine (R_iinc (k := 7) (n := 1) (x := x7) (v := (x7 + 1)) (loc' := [.ref 68, .int x1, .int x2, .int x3, .int x4, .int x5, .int x6, .int (x7 + 1), .int y]) (by decide +kernel) rfl rfl rfl).trans ?_
    refine (R_goto (off := (-46)) (t := 51) (by decide +kernel) (by decide +kernel)).trans ?_
    rfl
theorem s209_128v2 {L : Nat} {mi : Nat → Nat → Int32} {ml : Nat → Nat → Int64} {d : Nat} {Q : Option Value → xM → Prop} {x1 x2 x3 x4 x5 x6 x7 x8 : Int32} (h1 : xin x2 6 = true) : X 209 128 [.ref 68, .int x1, .int x2, .int x3, .int x4, .int x5, .int x6, .int x7, .int x8] [] (SH L, mi, ml, MR) d Q =
    Q (some (.int x5)) (SH L, (xw mi 69 x2.toNatClampNeg x4), ml, MR) := by
  refine (R_pure0 (ins := .aload_n 0) (len := 1) (loc' := [.ref 68, .int x1, .int x2, .int x3, .int x4, .int x5, .int x6, .int x7, .int x8]) (st' := [.ref 68]) (by decide +kernel) (fun _ => rfl)).trans ?_
  refine (R_gr (i := 7) (ci := 10) (k := 0) (n := 33) (b := 69) (by decide +kernel) (by decide +kernel) (by decide) rfl (SH_ref (by decide +kernel))).trans ?_
  refine (R_pure0 (ins := .iload_n 2) (len := 1) (loc' := [.ref 68, .int x1, .int x2, .int x3, .int x4, .int x5, .int x6, .int x7, .int x8]) (st' := [.int x2, .ref 69]) (by decide +kernel) (fun _ => rfl)).trans ?_
  refine (R_pure0 (ins := .iload 4) (len := 2) (loc' := [.ref 68, .int x1, .int x2, .int x3, .int x4, .int x5, .int x6, .int x7, .int x8]) (st' := [.int x4, .int x2, .ref 69]) (by decide +kernel) (fun _ => rfl)).trans ?_
  refine (R_iastore (n := 6) (by decide +kernel) rfl (h1)).trans ?_
  refine (R_pure0 (ins := .iload 5) (len := 2) (loc' := [.ref 68, .int x1, .int x2, .int x3, .int x4, .int x5, .int x6, .int x7, .int x8]) (st' := [.int x5]) (by decide +kernel) (fun _ => rfl)).trans ?_
  exact R_ireturn (by decide +kernel) (by decide +kernel)
theorem s210 {L : Nat} {mi : Nat → Nat → Int32} {ml : Nat → Nat → Int64} {d : Nat} {Q : Option Value → xM → Prop} {x1 : Int32} (h1 : xin x1 6 = true) : Xm 210 [.ref 68, .int x1] (SH L, mi, ml, MR) (d + 1) Q =
    Xm 207 [.ref 68, .int ((xw (xw (xw (xw mi 68 25 0) 68 26 ((1 <<< (((xw mi 68 25 0) 68 4) &&& 31)) - 1)) 68 27 0) 68 28 (-9)) 69 x1.toNatClampNeg)] (SH L, (xw (xw (xw (xw mi 68 25 0) 68 26 ((1 <<< (((xw mi 68 25 0) 68 4) &&& 31)) - 1)) 68 27 0) 68 28 (-9)), ml, MR) d (fun v μ' => X 210 38 [.ref 68, .int x1, xmk, xmk, xmk, xmk] (v.toList ++ []) μ' (d + 1) Q) := by
  rw [Xm_ent (n := 6) (loc := [.ref 68, .int x1, xmk, xmk, xmk, xmk]) (by decide +kernel) rfl]
  refine (R_pure0 (ins := .aload_n 0) (len := 1) (loc' := [.ref 68, .int x1, xmk, xmk, xmk, xmk]) (st' := [.ref 68]) (by decide +kernel) (fun _ => rfl)).trans ?_
  refine (R_iconst (n := 0) (v := 0) (by decide +kernel) (by decide +kernel)).trans ?_
  refine (R_pi (i := 234) (ci := 10) (k := 25) (n := 33) (by decide +kernel) (by decide +kernel) (by decide) rfl).trans ?_
  refine (R_pure0 (ins := .aload_n 0) (len := 1) (loc' := [.ref 68, .int x1, xmk, xmk, xmk, xmk]) (st' := [.ref 68]) (by decide +kernel) (fun _ => rfl)).trans ?_
  refine (R_iconst (n := 1) (v := 1) (by decide +kernel) (by decide +kernel)).trans ?_
  refine (R_pure0 (ins := .aload_n 0) (len := 1) (loc' := [.ref 68, .int x1, xmk, xmk, xmk, xmk]) (st' := [.ref 68, .int 1, .ref 68]) (by decide +kernel) (fun _ => rfl)).trans ?_
  refine (R_gi (i := 131) (ci := 10) (k := 4) (n := 33) (by decide +kernel) (by decide +kernel) (by decide) rfl).trans ?_
  refine (R_pure0 (ins := .ishl) (len := 1) (loc' := [.ref 68, .int x1, xmk, xmk, xmk, xmk]) (st' := [.int (1 <<< (((xw mi 68 25 0) 68 4) &&& 31)), .ref 68]) (by decide +kernel) (fun _ => rfl)).trans ?_
  refine (R_iconst (n := 1) (v := 1) (by decide +kernel) (by decide +kernel)).trans ?_
  refine (R_pure0 (ins := .isub) (len := 1) (loc' := [.ref 68, .int x1, xmk, xmk, xmk, xmk]) (st' := [.int ((1 <<< (((xw mi 68 25 0) 68 4) &&& 31)) - 1), .ref 68]) (by decide +kernel) (fun _ => rfl)).trans ?_
  refine (R_pi (i := 237) (ci := 10) (k := 26) (n := 33) (by decide +kernel) (by decide +kernel) (by decide) rfl).trans ?_
  refine (R_pure0 (ins := .aload_n 0) (len := 1) (loc' := [.ref 68, .int x1, xmk, xmk, xmk, xmk]) (st' := [.ref 68]) (by decide +kernel) (fun _ => rfl)).trans ?_
  refine (R_iconst (n := 0) (v := 0) (by decide +kernel) (by decide +kernel)).trans ?_
  refine (R_pi (i := 240) (ci := 10) (k := 27) (n := 33) (by decide +kernel) (by decide +kernel) (by decide) rfl).trans ?_
  refine (R_pure0 (ins := .aload_n 0) (len := 1) (loc' := [.ref 68, .int x1, xmk, xmk, xmk, xmk]) (st' := [.ref 68]) (by decide +kernel) (fun _ => rfl)).trans ?_
  refine (R_bipush (n := (-9)) (v := (-9)) (by decide +kernel) (by decide +kernel)).trans ?_
  refine (R_pi (i := 243) (ci := 10) (k := 28) (n := 33) (by decide +kernel) (by decide +kernel) (by decide) rfl).trans ?_
  refine (R_pure0 (ins := .aload_n 0) (len := 1) (loc' := [.ref 68, .int x1, xmk, xmk, xmk, xmk]) (st' := [.ref 68]) (by decide +kernel) (fun _ => rfl)).trans ?_
  refine (R_pure0 (ins := .aload_n 0) (len := 1) (loc' := [.ref 68, .int x1, xmk, xmk, xmk, xmk]) (st' := [.ref 68, .ref 68]) (by decide +kernel) (fun _ => rfl)).trans ?_
  refine (R_gr (i := 7) (ci := 10) (k := 0) (n := 33) (b := 69) (by decide +kernel) (by decide +kernel) (by decide) rfl (SH_ref (by decide +kernel))).trans ?_
  refine (R_pure0 (ins := .iload_n 1) (len := 1) (loc' := [.ref 68, .int x1, xmk, xmk, xmk, xmk]) (st' := [.int x1, .ref 69, .ref 68]) (by decide +kernel) (fun _ => rfl)).trans ?_
  refine (R_iaload (kd := 100) (n := 6) (by decide +kernel) rfl (by decide) (h1)).trans ?_
  refine (R_virt (i := 228) (f := 207) (kd := 0) (na := 1) (ml := 4) (ci := 10) (n := 33) (b := 68) (As := [.int ((xw (xw (xw (xw mi 68 25 0) 68 26 ((1 <<< (((xw mi 68 25 0) 68 4) &&& 31)) - 1)) 68 27 0) 68 28 (-9)) 69 x1.toNatClampNeg)]) (rest := []) (by decide +kernel) (by decide +kernel) (by decide) (by decide +kernel) rfl (by decide +kernel) rfl rfl (by decide +kernel) (Nat.le_of_ble_eq_true rfl)).trans ?_
  rfl
theorem s210_38 {L : Nat} {mi : Nat → Nat → Int32} {ml : Nat → Nat → Int64} {d : Nat} {Q : Option Value → xM → Prop} {x1 y : Int32} : X 210 38 [.ref 68, .int x1, xmk, xmk, xmk, xmk] [.int y] (SH L, mi, ml, MR) d Q =
    X 210 41 [.ref 68, .int x1, .int y, .int 0, xmk, xmk] [] (SH L, mi, ml, MR) d Q := by
  refine (R_pure0 (ins := .istore_n 2) (len := 1) (loc' := [.ref 68, .int x1, .int y, xmk, xmk, xmk]) (st' := []) (by decide +kernel) (fun _ => rfl)).trans ?_
  refine (R_iconst (n := 0) (v := 0) (by decide +kernel) (by decide +kernel)).trans ?_
  refine (R_pure0 (ins := .istore_n 3) (len := 1) (loc' := [.ref 68, .int x1, .int y, .int 0, xmk, xmk]) (st' := []) (by decide +kernel) (fun _ => rfl)).trans ?_
  rfl
theorem s210_41 {L : Nat} {mi : Nat → Nat → Int32} {ml : Nat → Nat → Int64} {d : Nat} {Q : Option Value → xM → Prop} {x1 x2 x3 : Int32} : X 210 41 [.ref 68, .int x1, .int x2, .int x3, xmk, xmk] [] (SH L, mi, ml, MR) (d + 1) Q =
    if (x3 < x2) then (Xm 208 [.ref 68, .int x3, .int x1, .int 0] (SH L, mi, ml, MR) d (fun v μ' => X 210 53 [.ref 68, .int x1, .int x2, .int x3, xmk, xmk] (v.toList ++ []) μ' (d + 1) Q)) else (if ((mi 68 25) = 0) then (Q none (SH L, (xw mi 68 26 0), ml, MR)) else (Q none (SH L, (xw mi 68 26 (mi 68 26)), ml, MR))) := by
  refine (R_pure0 (ins := .iload_n 3) (len := 1) (loc' := [.ref 68, .int x1, .int x2, .int x3, xmk, xmk]) (st' := [.int x3]) (by decide +kernel) (fun _ => rfl)).trans ?_
  refine (R_pure0 (ins := .iload_n 2) (len := 1) (loc' := [.ref 68, .int x1, .int x2, .int x3, xmk, xmk]) (st' := [.int x2, .int x3]) (by decide +kernel) (fun _ => rfl)).trans ?_
  refine (R_icmp_ge (off := 121) (t := 164) (by decide +kernel) (by decide +kernel)).trans (ite_congr rfl (fun c0 => ?_) (fun c0 => ?_))
  · refine (R_pure0 (ins := .aload_n 0) (len := 1) (loc' := [.ref 68, .int x1, .int x2, .int x3, xmk, xmk]) (st' := [.ref 68]) (by decide +kernel) (fun _ => rfl)).trans ?_
    refine (R_pure0 (ins := .iload_n 3) (len := 1) (loc' := [.ref 68, .int x1, .int x2, .int x3, xmk, xmk]) (st' := [.int x3, .ref 68]) (by decide +kernel) (fun _ => rfl)).trans ?_
    refine (R_pure0 (ins := .iload_n 1) (len := 1) (loc' := [.ref 68, .int x1, .int x2, .int x3, xmk, xmk]) (st' := [.int x1, .int x3, .ref 68]) (by decide +kernel) (fun _ => rfl)).trans ?_
    refine (R_iconst (n := 0) (v := 0) (by decide +kernel) (by decide +kernel)).trans ?_
    refine (R_virt (i := 231) (f := 208) (kd := 0) (na := 3) (ml := 10) (ci := 10) (n := 33) (b := 68) (As := [.int x3, .int x1, .int 0]) (rest := []) (by decide +kernel) (by decide +kernel) (by decide) (by decide +kernel) rfl (by decide +kernel) rfl rfl (by decide +kernel) (Nat.le_of_ble_eq_true rfl)).trans ?_
    rfl
  · refine (R_pure0 (ins := .aload_n 0) (len := 1) (loc' := [.ref 68, .int x1, .int x2, .int x3, xmk, xmk]) (st' := [.ref 68]) (by decide +kernel) (fun _ => rfl)).trans ?_
    refine (R_pure0 (ins := .aload_n 0) (len := 1) (loc' := [.ref 68, .int x1, .int x2, .int x3, xmk, xmk]) (st' := [.ref 68, .ref 68]) (by decide +kernel) (fun _ => rfl)).trans ?_
    refine (R_gi (i := 234) (ci := 10) (k := 25) (n := 33) (by decide +kernel) (by decide +kernel) (by decide) rfl).trans ?_
    refine (R_if_ne (off := 7) (t := 176) (by decide +kernel) (by decide +kernel)).trans (ite_congr rfl (fun c1 => ?_) (fun c1 => ?_))
    · refine (R_iconst (n := 0) (v := 0) (by decide +kernel) (by decide +kernel)).trans ?_
      refine (R_goto (off := 7) (t := 180) (by decide +kernel) (by decide +kernel)).trans ?_
      refine (R_pi (i := 237) (ci := 10) (k := 26) (n := 33) (by decide +kernel) (by decide +kernel) (by decide) rfl).trans ?_
      exact R_return (by decide +kernel) (by decide +kernel)
    · refine (R_pure0 (ins := .aload_n 0) (len := 1) (loc' := [.ref 68, .int x1, .int x2, .int x3, xmk, xmk]) (st' := [.ref 68, .ref 68]) (by decide +kernel) (fun _ => rfl)).trans ?_
      refine (R_gi (i := 237) (ci := 10) (k := 26) (n := 33) (by decide +kernel) (by decide +kernel) (by decide) rfl).trans ?_
      refine (R_pi (i := 237) (ci := 10) (k := 26) (n := 33) (by decide +kernel) (by decide +kernel) (by decide) rfl).trans ?_
      exact R_return (by decide +kernel) (by decide +kernel)
theorem s210_53 {L : Nat} {mi : Nat → Nat → Int32} {ml : Nat → Nat → Int64} {d : Nat} {Q : Option Value → xM → Prop} {x1 x2 x3 y : Int32} : X 210 53 [.ref 68, .int x1, .int x2, .int x3, xmk, xmk] [.int y] (SH L, mi, ml, MR) d Q =
    if (y = 0) then (X 210 62 [.ref 68, .int x1, .int x2, .int x3, .int 0, .int 0] [] (SH L, mi, ml, MR) d Q) else (X 210 41 [.ref 68, .int x1, .int x2, .int (x3 + 1), xmk, xmk] [] (SH L, mi, ml, MR) d Q) := by
  refine (R_if_ne (off := 105) (t := 158) (by decide +kernel) (by decide +kernel)).trans (ite_congr rfl (fun c0 => ?_) (fun c0 => ?_))
  · refine (R_iconst (n := 0) (v := 0) (by decide +kernel) (by decide +kernel)).trans ?_
    refine (R_pure0 (ins := .istore 4) (len := 2) (loc' := [.ref 68, .int x1, .int x2, .int x3, .int 0, xmk]) (st' := []) (by decide +kernel) (fun _ => rfl)).trans ?_
    refine (R_iconst (n := 0) (v := 0) (by decide +kernel) (by decide +kernel)).trans ?_
    refine (R_pure0 (ins := .istore 5) (len := 2) (loc' := [.ref 68, .int x1, .int x2, .int x3, .int 0, .int 0]) (st' := []) (by decide +kernel) (fun _ => rfl)).trans ?_
    rfl
  · refine (R_iinc (k := 3) (n := 1) (x := x3) (v := (x3 + 1)) (loc' := [.ref 68, .int x1, .int x2, .int (x3 + 1), xmk, xmk]) (by decide +kernel) rfl rfl rfl).trans ?_
    refine (R_goto (off := (-120)) (t := 41) (by decide +kernel) (by decide +kernel)).trans ?_
    rfl
theorem s210_62 {L : Nat} {mi : Nat → Nat → Int32} {ml : Nat → Nat → Int64} {d : Nat} {Q : Option Value → xM → Prop} {x1 x2 x3 x4 x5 : Int32} (h1 : xin x1 6 = true) (h2 : (x5 < (mi 69 x1.toNatClampNeg)) → xin x5 5 = true) (h3 : ¬ (x5 < (mi 69 x1.toNatClampNeg)) → ((mi 68 25) = 0) → xin x1 6 = true) : X 210 62 [.ref 68, .int x1, .int x2, .int x3, .int x4, .int x5] [] (SH L, mi, ml, MR) d Q =
    if (x5 < (mi 69 x1.toNatClampNeg)) then (X 210 62 [.ref 68, .int x1, .int x2, .int x3, .int (x4 ||| (1 <<< ((mi 83 x5.toNatClampNeg) &&& 31))), .int (x5 + 1)] [] (SH L, mi, ml, MR) d Q) else (if ((mi 68 25) = 0) then (if ((0 : Int32) < (mi 69 x1.toNatClampNeg)) then (X 210 41 [.ref 68, .int x1, .int x2, .int (x3 + 1), .int x4, .int x5] [] (SH L, (xw (xw (xw (xw mi 68 28 (mi 83 (0 : Int32).toNatClampNeg)) 68 25 (((xw mi 68 28 (mi 83 (0 : Int32).toNatClampNeg)) 68 25) + 1)) 68 26 (((xw (xw mi 68 28 (mi 83 (0 : Int32).toNatClampNeg)) 68 25 (((xw mi 68 28 (mi 83 (0 : Int32).toNatClampNeg)) 68 25) + 1)) 68 26) &&& x4)) 68 27 (((xw (xw (xw mi 68 28 (mi 83 (0 : Int32).toNatClampNeg)) 68 25 (((xw mi 68 28 (mi 83 (0 : Int32).toNatClampNeg)) 68 25) + 1)) 68 26 (((xw (xw mi 68 28 (mi 83 (0 : Int32).toNatClampNeg)) 68 25 (((xw mi 68 28 (mi 83 (0 : Int32).toNatClampNeg)) 68 25) + 1)) 68 26) &&& x4)) 68 27) ||| x4)), ml, MR) d Q) else (X 210 41 [.ref 68, .int x1, .int x2, .int (x3 + 1), .int x4, .int x5] [] (SH L, (xw (xw (xw (xw mi 68 28 (mi 68 28)) 68 25 (((xw mi 68 28 (mi 68 28)) 68 25) + 1)) 68 26 (((xw (xw mi 68 28 (mi 68 28)) 68 25 (((xw mi 68 28 (mi 68 28)) 68 25) + 1)) 68 26) &&& x4)) 68 27 (((xw (xw (xw mi 68 28 (mi 68 28)) 68 25 (((xw mi 68 28 (mi 68 28)) 68 25) + 1)) 68 26 (((xw (xw mi 68 28 (mi 68 28)) 68 25 (((xw mi 68 28 (mi 68 28)) 68 25) + 1)) 68 26) &&& x4)) 68 27) ||| x4)), ml, MR) d Q)) else (X 210 41 [.ref 68, .int x1, .int x2, .int (x3 + 1), .int x4, .int x5] [] (SH L, (xw (xw (xw (xw mi 68 28 (mi 68 28)) 68 25 (((xw mi 68 28 (mi 68 28)) 68 25) + 1)) 68 26 (((xw (xw mi 68 28 (mi 68 28)) 68 25 (((xw mi 68 28 (mi 68 28)) 68 25) + 1)) 68 26) &&& x4)) 68 27 (((xw (xw (xw mi 68 28 (mi 68 28)) 68 25 (((xw mi 68 28 (mi 68 28)) 68 25) + 1)) 68 26 (((xw (xw mi 68 28 (mi 68 28)) 68 25 (((xw mi 68 28 (mi 68 28)) 68 25) + 1)) 68 26) &&& x4)) 68 27) ||| x4)), ml, MR) d Q)) := by
  refine (R_pure0 (ins := .iload 5) (len := 2) (loc' := [.ref 68, .int x1, .int x2, .int x3, .int x4, .int x5]) (st' := [.int x5]) (by decide +kernel) (fun _ => rfl)).trans ?_
  refine (R_pure0 (ins := .aload_n 0) (len := 1) (loc' := [.ref 68, .int x1, .int x2, .int x3, .int x4, .int x5]) (st' := [.ref 68, .int x5]) (by decide +kernel) (fun _ => rfl)).trans ?_
  refine (R_gr (i := 7) (ci := 10) (k := 0) (n := 33) (b := 69) (by decide +kernel) (by decide +kernel) (by decide) rfl (SH_ref (by decide +kernel))).trans ?_
  refine (R_pure0 (ins := .iload_n 1) (len := 1) (loc' := [.ref 68, .int x1, .int x2, .int x3, .int x4, .int x5]) (st' := [.int x1, .ref 69, .int x5]) (by decide +kernel) (fun _ => rfl)).trans ?_
  refine (R_iaload (kd := 100) (n := 6) (by decide +kernel) rfl (by decide) (h1)).trans ?_
  refine (R_icmp_ge (off := 23) (t := 93) (by decide +kernel) (by decide +kernel)).trans (ite_congr rfl (fun c0 => ?_) (fun c0 => ?_))
  · refine (R_pure0 (ins := .iload 4) (len := 2) (loc' := [.ref 68, .int x1, .int x2, .int x3, .int x4, .int x5]) (st' := [.int x4]) (by decide +kernel) (fun _ => rfl)).trans ?_
    refine (R_iconst (n := 1) (v := 1) (by decide +kernel) (by decide +kernel)).trans ?_
    refine (R_pure0 (ins := .aload_n 0) (len := 1) (loc' := [.ref 68, .int x1, .int x2, .int x3, .int x4, .int x5]) (st' := [.ref 68, .int 1, .int x4]) (by decide +kernel) (fun _ => rfl)).trans ?_
    refine (R_gr (i := 57) (ci := 10) (k := 22) (n := 33) (b := 83) (by decide +kernel) (by decide +kernel) (by decide) rfl (SH_ref (by decide +kernel))).trans ?_
    refine (R_pure0 (ins := .iload 5) (len := 2) (loc' := [.ref 68, .int x1, .int x2, .int x3, .int x4, .int x5]) (st' := [.int x5, .ref 83, .int 1, .int x4]) (by decide +kernel) (fun _ => rfl)).trans ?_
    refine (R_iaload (kd := 100) (n := 5) (by decide +kernel) rfl (by decide) (h2 c0)).trans ?_
    refine (R_pure0 (ins := .ishl) (len := 1) (loc' := [.ref 68, .int x1, .int x2, .int x3, .int x4, .int x5]) (st' := [.int (1 <<< ((mi 83 x5.toNatClampNeg) &&& 31)), .int x4]) (by decide +kernel) (fun _ => rfl)).trans ?_
    refine (R_pure0 (ins := .ior) (len := 1) (loc' := [.ref 68, .int x1, .int x2, .int x3, .int x4, .int x5]) (st' := [.int (x4 ||| (1 <<< ((mi 83 x5.toNatClampNeg) &&& 31)))]) (by decide +kernel) (fun _ => rfl)).trans ?_
    refine (R_pure0 (ins := .istore 4) (len := 2) (loc' := [.ref 68, .int x1, .int x2, .int x3, .int (x4 ||| (1 <<< ((mi 83 x5.toNatClampNeg) &&& 31))), .int x5]) (st' := []) (by decide +kernel) (fun _ => rfl)).trans ?_
    refine (R_iinc (k := 5) (n := 1) (x := x5) (v := (x5 + 1)) (loc' := [.ref 68, .int x1, .int x2, .int x3, .int (x4 ||| (1 <<< ((mi 83 x5.toNatClampNeg) &&& 31))), .int (x5 + 1)]) (by decide +kernel) rfl rfl rfl).trans ?_
    refine (R_goto (off := (-28)) (t := 62) (by decide +kernel) (by decide +kernel)).trans ?_
    rfl
  · refine (R_pure0 (ins := .aload_n 0) (len := 1) (loc' := [.ref 68, .int x1, .int x2, .int x3, .int x4, .int x5]) (st' := [.ref 68]) (by decide +kernel) (fun _ => rfl)).trans ?_
    refine (R_pure0 (ins := .aload_n 0) (len := 1) (loc' := [.ref 68, .int x1, .int x2, .int x3, .int x4, .int x5]) (st' := [.ref 68, .ref 68]) (by decide +kernel) (fun _ => rfl)).trans ?_
    refine (R_gi (i := 234) (ci := 10) (k := 25) (n := 33) (by decide +kernel) (by decide +kernel) (by decide) rfl).trans ?_
    refine (R_if_ne (off := 21) (t := 119) (by decide +kernel) (by decide +kernel)).trans (ite_congr rfl (fun c1 => ?_) (fun c1 => ?_))
    · refine (R_pure0 (ins := .aload_n 0) (len := 1) (loc' := [.ref 68, .int x1, .int x2, .int x3, .int x4, .int x5]) (st' := [.ref 68, .ref 68]) (by decide +kernel) (fun _ => rfl)).trans ?_
      refine (R_gr (i := 7) (ci := 10) (k := 0) (n := 33) (b := 69) (by decide +kernel) (by decide +kernel) (by decide) rfl (SH_ref (by decide +kernel))).trans ?_
      refine (R_pure0 (ins := .iload_n 1) (len := 1) (loc' := [.ref 68, .int x1, .int x2, .int x3, .int x4, .int x5]) (st' := [.int x1, .ref 69, .ref 68]) (by decide +kernel) (fun _ => rfl)).trans ?_
      refine (R_iaload (kd := 100) (n := 6) (by decide +kernel) rfl (by decide) (h3 c0 c1)).trans ?_
      refine (R_if_le (off := 12) (t := 119) (by decide +kernel) (by decide +kernel)).trans (ite_congr rfl (fun c2 => ?_) (fun c2 => ?_))
      · refine (R_pure0 (ins := .aload_n 0) (len := 1) (loc' := [.ref 68, .int x1, .int x2, .int x3, .int x4, .int x5]) (st' := [.ref 68, .ref 68]) (by decide +kernel) (fun _ => rfl)).trans ?_
        refine (R_gr (i := 57) (ci := 10) (k := 22) (n := 33) (b := 83) (by decide +kernel) (by decide +kernel) (by decide) rfl (SH_ref (by decide +kernel))).trans ?_
        refine (R_iconst (n := 0) (v := 0) (by decide +kernel) (by decide +kernel)).trans ?_
        refine (R_iaload (kd := 100) (n := 5) (by decide +kernel) rfl (by decide) (by decide)).trans ?_
        refine (R_goto (off := 7) (t := 123) (by decide +kernel) (by decide +kernel)).trans ?_
        refine (R_pi (i := 243) (ci := 10) (k := 28) (n := 33) (by decide +kernel) (by decide +kernel) (by decide) rfl).trans ?_
        refine (R_pure0 (ins := .aload_n 0) (len := 1) (loc' := [.ref 68, .int x1, .int x2, .int x3, .int x4, .int x5]) (st' := [.ref 68]) (by decide +kernel) (fun _ => rfl)).trans ?_
        refine (R_pure0 (ins := .dup) (len := 1) (loc' := [.ref 68, .int x1, .int x2, .int x3, .int x4, .int x5]) (st' := [.ref 68, .ref 68]) (by decide +kernel) (fun _ => rfl)).trans ?_
        refine (R_gi (i := 234) (ci := 10) (k := 25) (n := 33) (by decide +kernel) (by decide +kernel) (by decide) rfl).trans ?_
        refine (R_iconst (n := 1) (v := 1) (by decide +kernel) (by decide +kernel)).trans ?_
        refine (R_pure0 (ins := .iadd) (len := 1) (loc' := [.ref 68, .int x1, .int x2, .int x3, .int x4, .int x5]) (st' := [.int (((xw mi 68 28 (mi 83 (0 : Int32).toNatClampNeg)) 68 25) + 1), .ref 68]) (by decide +kernel) (fun _ => rfl)).trans ?_
        refine (R_pi (i := 234) (ci := 10) (k := 25) (n := 33) (by decide +kernel) (by decide +kernel) (by decide) rfl).trans ?_
        refine (R_pure0 (ins := .aload_n 0) (len := 1) (loc' := [.ref 68, .int x1, .int x2, .int x3, .int x4, .int x5]) (st' := [.ref 68]) (by decide +kernel) (fun _ => rfl)).trans ?_
        refine (R_pure0 (ins := .dup) (len := 1) (loc' := [.ref 68, .int x1, .int x2, .int x3, .int x4, .int x5]) (st' := [.ref 68, .ref 68]) (by decide +kernel) (fun _ => rfl)).trans ?_
        refine (R_gi (i := 237) (ci := 10) (k := 26) (n := 33) (by decide +kernel) (by decide +kernel) (by decide) rfl).trans ?_
        refine (R_pure0 (ins := .iload 4) (len := 2) (loc' := [.ref 68, .int x1, .int x2, .int x3, .int x4, .int x5]) (st' := [.int x4, .int ((xw (xw mi 68 28 (mi 83 (0 : Int32).toNatClampNeg)) 68 25 (((xw mi 68 28 (mi 83 (0 : Int32).toNatClampNeg)) 68 25) + 1)) 68 26), .ref 68]) (by decide +kernel) (fun _ => rfl)).trans ?_
        refine (R_pure0 (ins := .iand) (len := 1) (loc' := [.ref 68, .int x1, .int x2, .int x3, .int x4, .int x5]) (st' := [.int (((xw (xw mi 68 28 (mi 83 (0 : Int32).toNatClampNeg)) 68 25 (((xw mi 68 28 (mi 83 (0 : Int32).toNatClampNeg)) 68 25) + 1)) 68 26) &&& x4), .ref 68]) (by decide +kernel) (fun _ => rfl)).trans ?_
        refine (R_pi (i := 237) (ci := 10) (k := 26) (n := 33) (by decide +kernel) (by decide +kernel) (by decide) rfl).trans ?_
        refine (R_pure0 (ins := .aload_n 0) (len := 1) (loc' := [.ref 68, .int x1, .int x2, .int x3, .int x4, .int x5]) (st' := [.ref 68]) (by decide +kernel) (fun _ => rfl)).trans ?_
        refine (R_pure0 (ins := .dup) (len := 1) (loc' := [.ref 68, .int x1, .int x2, .int x3, .int x4, .int x5]) (st' := [.ref 68, .ref 68]) (by decide +kernel) (fun _ => rfl)).trans ?_
        refine (R_gi (i := 240) (ci := 10) (k := 27) (n := 33) (by decide +kernel) (by decide +kernel) (by decide) rfl).trans ?_
        refine (R_pure0 (ins := .iload 4) (len := 2) (loc' := [.ref 68, .int x1, .int x2, .int x3, .int x4, .int x5]) (st' := [.int x4, .int ((xw (xw (xw mi 68 28 (mi 83 (0 : Int32).toNatClampNeg)) 68 25 (((xw mi 68 28 (mi 83 (0 : Int32).toNatClampNeg)) 68 25) + 1)) 68 26 (((xw (xw mi 68 28 (mi 83 (0 : Int32).toNatClampNeg)) 68 25 (((xw mi 68 28 (mi 83 (0 : Int32).toNatClampNeg)) 68 25) + 1)) 68 26) &&& x4)) 68 27), .ref 68]) (by decide +kernel) (fun _ => rfl)).trans ?_
        refine (R_pure0 (ins := .ior) (len := 1) (loc' := [.ref 68, .int x1, .int x2, .int x3, .int x4, .int x5]) (st' := [.int (((xw (xw (xw mi 68 28 (mi 83 (0 : Int32).toNatClampNeg)) 68 25 (((xw mi 68 28 (mi 83 (0 : Int32).toNatClampNeg)) 68 25) + 1)) 68 26 (((xw (xw mi 68 28 (mi 83 (0 : Int32).toNatClampNeg)) 68 25 (((xw mi 68 28 (mi 83 (0 : Int32).toNatClampNeg)) 68 25) + 1)) 68 26) &&& x4)) 68 27) ||| x4), .ref 68]) (by decide +kernel) (fun _ => rfl)).trans ?_
        refine (R_pi (i := 240) (ci := 10) (k := 27) (n := 33) (by decide +kernel) (by decide +kernel) (by decide) rfl).trans ?_
        refine (R_iinc (k := 3) (n := 1) (x := x3) (v := (x3 + 1)) (loc' := [.ref 68, .int x1, .int x2, .int (x3 + 1), .int x4, .int x5]) (by decide +kernel) rfl rfl rfl).trans ?_
        refine (R_goto (off := (-120)) (t := 41) (by decide +kernel) (by decide +kernel)).trans ?_
        rfl
      · refine (R_pure0 (ins := .aload_n 0) (len := 1) (loc' := [.ref 68, .int x1, .int x2, .int x3, .int x4, .int x5]) (st' := [.ref 68, .ref 68]) (by decide +kernel) (fun _ => rfl)).trans ?_
        refine (R_gi (i := 243) (ci := 10) (k := 28) (n := 33) (by decide +kernel) (by decide +kernel) (by decide) rfl).trans ?_
        refine (R_pi (i := 243) (ci := 10) (k := 28) (n := 33) (by decide +kernel) (by decide +kernel) (by decide) rfl).trans ?_
        refine (R_pure0 (ins := .aload_n 0) (len := 1) (loc' := [.ref 68, .int x1, .int x2, .int x3, .int x4, .int x5]) (st' := [.ref 68]) (by decide +kernel) (fun _ => rfl)).trans ?_
        refine (R_pure0 (ins := .dup) (len := 1) (loc' := [.ref 68, .int x1, .int x2, .int x3, .int x4, .int x5]) (st' := [.ref 68, .ref 68]) (by decide +kernel) (fun _ => rfl)).trans ?_
        refine (R_gi (i := 234) (ci := 10) (k := 25) (n := 33) (by decide +kernel) (by decide +kernel) (by decide) rfl).trans ?_
        refine (R_iconst (n := 1) (v := 1) (by decide +kernel) (by decide +kernel)).trans ?_
        refine (R_pure0 (ins := .iadd) (len := 1) (loc' := [.ref 68, .int x1, .int x2, .int x3, .int x4, .int x5]) (st' := [.int (((xw mi 68 28 (mi 68 28)) 68 25) + 1), .ref 68]) (by decide +kernel) (fun _ => rfl)).trans ?_
        refine (R_pi (i := 234) (ci := 10) (k := 25) (n := 33) (by decide +kernel) (by decide +kernel) (by decide) rfl).trans ?_
        refine (R_pure0 (ins := .aload_n 0) (len := 1) (loc' := [.ref 68, .int x1, .int x2, .int x3, .int x4, .int x5]) (st' := [.ref 68]) (by decide +kernel) (fun _ => rfl)).trans ?_
        refine (R_pure0 (ins := .dup) (len := 1) (loc' := [.ref 68, .int x1, .int x2, .int x3, .int x4, .int x5]) (st' := [.ref 68, .ref 68]) (by decide +kernel) (fun _ => rfl)).trans ?_
        refine (R_gi (i := 237) (ci := 10) (k := 26) (n := 33) (by decide +kernel) (by decide +kernel) (by decide) rfl).trans ?_
        refine (R_pure0 (ins := .iload 4) (len := 2) (loc' := [.ref 68, .int x1, .int x2, .int x3, .int x4, .int x5]) (st' := [.int x4, .int ((xw (xw mi 68 28 (mi 68 28)) 68 25 (((xw mi 68 28 (mi 68 28)) 68 25) + 1)) 68 26), .ref 68]) (by decide +kernel) (fun _ => rfl)).trans ?_
        refine (R_pure0 (ins := .iand) (len := 1) (loc' := [.ref 68, .int x1, .int x2, .int x3, .int x4, .int x5]) (st' := [.int (((xw (xw mi 68 28 (mi 68 28)) 68 25 (((xw mi 68 28 (mi 68 28)) 68 25) + 1)) 68 26) &&& x4), .ref 68]) (by decide +kernel) (fun _ => rfl)).trans ?_
        refine (R_pi (i := 237) (ci := 10) (k := 26) (n := 33) (by decide +kernel) (by decide +kernel) (by decide) rfl).trans ?_
        refine (R_pure0 (ins := .aload_n 0) (len := 1) (loc' := [.ref 68, .int x1, .int x2, .int x3, .int x4, .int x5]) (st' := [.ref 68]) (by decide +kernel) (fun _ => rfl)).trans ?_
        refine (R_pure0 (ins := .dup) (len := 1) (loc' := [.ref 68, .int x1, .int x2, .int x3, .int x4, .int x5]) (st' := [.ref 68, .ref 68]) (by decide +kernel) (fun _ => rfl)).trans ?_
        refine (R_gi (i := 240) (ci := 10) (k := 27) (n := 33) (by decide +kernel) (by decide +kernel) (by decide) rfl).trans ?_
        refine (R_pure0 (ins := .iload 4) (len := 2) (loc' := [.ref 68, .int x1, .int x2, .int x3, .int x4, .int x5]) (st' := [.int x4, .int ((xw (xw (xw mi 68 28 (mi 68 28)) 68 25 (((xw mi 68 28 (mi 68 28)) 68 25) + 1)) 68 26 (((xw (xw mi 68 28 (mi 68 28)) 68 25 (((xw mi 68 28 (mi 68 28)) 68 25) + 1)) 68 26) &&& x4)) 68 27), .ref 68]) (by decide +kernel) (fun _ => rfl)).trans ?_
        refine (R_pure0 (ins := .ior) (len := 1) (loc' := [.ref 68, .int x1, .int x2, .int x3, .int x4, .int x5]) (st' := [.int (((xw (xw (xw mi 68 28 (mi 68 28)) 68 25 (((xw mi 68 28 (mi 68 28)) 68 25) + 1)) 68 26 (((xw (xw mi 68 28 (mi 68 28)) 68 25 (((xw mi 68 28 (mi 68 28)) 68 25) + 1)) 68 26) &&& x4)) 68 27) ||| x4), .ref 68]) (by decide +kernel) (fun _ => rfl)).trans ?_
        refine (R_pi (i := 240) (ci := 10) (k := 27) (n := 33) (by decide +kernel) (by decide +kernel) (by decide) rfl).trans ?_
        refine (R_iinc (k := 3) (n := 1) (x := x3) (v := (x3 + 1)) (loc' := [.ref 68, .int x1, .int x2, .int (x3 + 1), .int x4, .int x5]) (by decide +kernel) rfl rfl rfl).trans ?_
        refine (R_goto (off := (-120)) (t := 41) (by decide +kernel) (by decide +kernel)).trans ?_
        rfl
    · refine (R_pure0 (ins := .aload_n 0) (len := 1) (loc' := [.ref 68, .int x1, .int x2, .int x3, .int x4, .int x5]) (st' := [.ref 68, .ref 68]) (by decide +kernel) (fun _ => rfl)).trans ?_
      refine (R_gi (i := 243) (ci := 10) (k := 28) (n := 33) (by decide +kernel) (by decide +kernel) (by decide) rfl).trans ?_
      refine (R_pi (i := 243) (ci := 10) (k := 28) (n := 33) (by decide +kernel) (by decide +kernel) (by decide) rfl).trans ?_
      refine (R_pure0 (ins := .aload_n 0) (len := 1) (loc' := [.ref 68, .int x1, .int x2, .int x3, .int x4, .int x5]) (st' := [.ref 68]) (by decide +kernel) (fun _ => rfl)).trans ?_
      refine (R_pure0 (ins := .dup) (len := 1) (loc' := [.ref 68, .int x1, .int x2, .int x3, .int x4, .int x5]) (st' := [.ref 68, .ref 68]) (by decide +kernel) (fun _ => rfl)).trans ?_
      refine (R_gi (i := 234) (ci := 10) (k := 25) (n := 33) (by decide +kernel) (by decide +kernel) (by decide) rfl).trans ?_
      refine (R_iconst (n := 1) (v := 1) (by decide +kernel) (by decide +kernel)).trans ?_
      refine (R_pure0 (ins := .iadd) (len := 1) (loc' := [.ref 68, .int x1, .int x2, .int x3, .int x4, .int x5]) (st' := [.int (((xw mi 68 28 (mi 68 28)) 68 25) + 1), .ref 68]) (by decide +kernel) (fun _ => rfl)).trans ?_
      refine (R_pi (i := 234) (ci := 10) (k := 25) (n := 33) (by decide +kernel) (by decide +kernel) (by decide) rfl).trans ?_
      refine (R_pure0 (ins := .aload_n 0) (len := 1) (loc' := [.ref 68, .int x1, .int x2, .int x3, .int x4, .int x5]) (st' := [.ref 68]) (by decide +kernel) (fun _ => rfl)).trans ?_
      refine (R_pure0 (ins := .dup) (len := 1) (loc' := [.ref 68, .int x1, .int x2, .int x3, .int x4, .int x5]) (st' := [.ref 68, .ref 68]) (by decide +kernel) (fun _ => rfl)).trans ?_
      refine (R_gi (i := 237) (ci := 10) (k := 26) (n := 33) (by decide +kernel) (by decide +kernel) (by decide) rfl).trans ?_
      refine (R_pure0 (ins := .iload 4) (len := 2) (loc' := [.ref 68, .int x1, .int x2, .int x3, .int x4, .int x5]) (st' := [.int x4, .int ((xw (xw mi 68 28 (mi 68 28)) 68 25 (((xw mi 68 28 (mi 68 28)) 68 25) + 1)) 68 26), .ref 68]) (by decide +kernel) (fun _ => rfl)).trans ?_
      refine (R_pure0 (ins := .iand) (len := 1) (loc' := [.ref 68, .int x1, .int x2, .int x3, .int x4, .int x5]) (st' := [.int (((xw (xw mi 68 28 (mi 68 28)) 68 25 (((xw mi 68 28 (mi 68 28)) 68 25) + 1)) 68 26) &&& x4), .ref 68]) (by decide +kernel) (fun _ => rfl)).trans ?_
      refine (R_pi (i := 237) (ci := 10) (k := 26) (n := 33) (by decide +kernel) (by decide +kernel) (by decide) rfl).trans ?_
      refine (R_pure0 (ins := .aload_n 0) (len := 1) (loc' := [.ref 68, .int x1, .int x2, .int x3, .int x4, .int x5]) (st' := [.ref 68]) (by decide +kernel) (fun _ => rfl)).trans ?_
      refine (R_pure0 (ins := .dup) (len := 1) (loc' := [.ref 68, .int x1, .int x2, .int x3, .int x4, .int x5]) (st' := [.ref 68, .ref 68]) (by decide +kernel) (fun _ => rfl)).trans ?_
      refine (R_gi (i := 240) (ci := 10) (k := 27) (n := 33) (by decide +kernel) (by decide +kernel) (by decide) rfl).trans ?_
      refine (R_pure0 (ins := .iload 4) (len := 2) (loc' := [.ref 68, .int x1, .int x2, .int x3, .int x4, .int x5]) (st' := [.int x4, .int ((xw (xw (xw mi 68 28 (mi 68 28)) 68 25 (((xw mi 68 28 (mi 68 28)) 68 25) + 1)) 68 26 (((xw (xw mi 68 28 (mi 68 28)) 68 25 (((xw mi 68 28 (mi 68 28)) 68 25) + 1)) 68 26) &&& x4)) 68 27), .ref 68]) (by decide +kernel) (fun _ => rfl)).trans ?_
      refine (R_pure0 (ins := .ior) (len := 1) (loc' := [.ref 68, .int x1, .int x2, .int x3, .int x4, .int x5]) (st' := [.int (((xw (xw (xw mi 68 28 (mi 68 28)) 68 25 (((xw mi 68 28 (mi 68 28)) 68 25) + 1)) 68 26 (((xw (xw mi 68 28 (mi 68 28)) 68 25 (((xw mi 68 28 (mi 68 28)) 68 25) + 1)) 68 26) &&& x4)) 68 27) ||| x4), .ref 68]) (by decide +kernel) (fun _ => rfl)).trans ?_
      refine (R_pi (i := 240) (ci := 10) (k := 27) (n := 33) (by decide +kernel) (by decide +kernel) (by decide) rfl).trans ?_
      refine (R_iinc (k := 3) (n := 1) (x := x3) (v := (x3 + 1)) (loc' := [.ref 68, .int x1, .int x2, .int (x3 + 1), .int x4, .int x5]) (by decide +kernel) rfl rfl rfl).trans ?_
      refine (R_goto (off := (-120)) (t := 41) (by decide +kernel) (by decide +kernel)).trans ?_
      rfl
theorem s210_41v2 {L : Nat} {mi : Nat → Nat → Int32} {ml : Nat → Nat → Int64} {d : Nat} {Q : Option Value → xM → Prop} {x1 x2 x3 x4 x5 : Int32} : X 210 41 [.ref 68, .int x1, .int x2, .int x3, .int x4, .int x5] [] (SH L, mi, ml, MR) (d + 1) Q =
    if (x3 < x2) then (Xm 208 [.ref 68, .int x3, .int x1, .int 0] (SH L, mi, ml, MR) d (fun v μ' => X 210 53 [.ref 68, .int x1, .int x2, .int x3, .int x4, .int x5] (v.toList ++ []) μ' (d + 1) Q)) else (if ((mi 68 25) = 0) then (Q none (SH L, (xw mi 68 26 0), ml, MR)) else (Q none (SH L, (xw mi 68 26 (mi 68 26)), ml, MR))) := by
  refine (R_pure0 (ins := .iload_n 3) (len := 1) (loc' := [.ref 68, .int x1, .int x2, .int x3, .int x4, .int x5]) (st' := [.int x3]) (by decide +kernel) (fun _ => rfl)).trans ?_
  refine (R_pure0 (ins := .iload_n 2) (len := 1) (loc' := [.ref 68, .int x1, .int x2, .int x3, .int x4, .int x5]) (st' := [.int x2, .int x3]) (by decide +kernel) (fun _ => rfl)).trans ?_
  refine (R_icmp_ge (off := 121) (t := 164) (by decide +kernel) (by decide +kernel)).trans (ite_congr rfl (fun c0 => ?_) (fun c0 => ?_))
  · refine (R_pure0 (ins := .aload_n 0) (len := 1) (loc' := [.ref 68, .int x1, .int x2, .int x3, .int x4, .int x5]) (st' := [.ref 68]) (by decide +kernel) (fun _ => rfl)).trans ?_
    refine (R_pure0 (ins := .iload_n 3) (len := 1) (loc' := [.ref 68, .int x1, .int x2, .int x3, .int x4, .int x5]) (st' := [.int x3, .ref 68]) (by decide +kernel) (fun _ => rfl)).trans ?_
    refine (R_pure0 (ins := .iload_n 1) (len := 1) (loc' := [.ref 68, .int x1, .int x2, .int x3, .int x4, .int x5]) (st' := [.int x1, .int x3, .ref 68]) (by decide +kernel) (fun _ => rfl)).trans ?_
    refine (R_iconst (n := 0) (v := 0) (by decide +kernel) (by decide +kernel)).trans ?_
    refine (R_virt (i := 231) (f := 208) (kd := 0) (na := 3) (ml := 10) (ci := 10) (n := 33) (b := 68) (As := [.int x3, .int x1, .int 0]) (rest := []) (by decide +kernel) (by decide +kernel) (by decide) (by decide +kernel) rfl (by decide +kernel) rfl rfl (by decide +kernel) (Nat.le_of_ble_eq_true rfl)).trans ?_
    rfl
  · refine (R_pure0 (ins := .aload_n 0) (len := 1) (loc' := [.ref 68, .int x1, .int x2, .int x3, .int x4, .int x5]) (st' := [.ref 68]) (by decide +kernel) (fun _ => rfl)).trans ?_
    refine (R_pure0 (ins := .aload_n 0) (len := 1) (loc' := [.ref 68, .int x1, .int x2, .int x3, .int x4, .int x5]) (st' := [.ref 68, .ref 68]) (by decide +kernel) (fun _ => rfl)).trans ?_
    refine (R_gi (i := 234) (ci := 10) (k := 25) (n := 33) (by decide +kernel) (by decide +kernel) (by decide) rfl).trans ?_
    refine (R_if_ne (off := 7) (t := 176) (by decide +kernel) (by decide +kernel)).trans (ite_congr rfl (fun c1 => ?_) (fun c1 => ?_))
    · refine (R_iconst (n := 0) (v := 0) (by decide +kernel) (by decide +kernel)).trans ?_
      refine (R_goto (off := 7) (t := 180) (by decide +kernel) (by decide +kernel)).trans ?_
      refine (R_pi (i := 237) (ci := 10) (k := 26) (n := 33) (by decide +kernel) (by decide +kernel) (by decide) rfl).trans ?_
      exact R_return (by decide +kernel) (by decide +kernel)
    · refine (R_pure0 (ins := .aload_n 0) (len := 1) (loc' := [.ref 68, .int x1, .int x2, .int x3, .int x4, .int x5]) (st' := [.ref 68, .ref 68]) (by decide +kernel) (fun _ => rfl)).trans ?_
      refine (R_gi (i := 237) (ci := 10) (k := 26) (n := 33) (by decide +kernel) (by decide +kernel) (by decide) rfl).trans ?_
      refine (R_pi (i := 237) (ci := 10) (k := 26) (n := 33) (by decide +kernel) (by decide +kernel) (by decide) rfl).trans ?_
      exact R_return (by decide +kernel) (by decide +kernel)
theorem s210_53v2 {L : Nat} {mi : Nat → Nat → Int32} {ml : Nat → Nat → Int64} {d : Nat} {Q : Option Value → xM → Prop} {x1 x2 x3 x4 x5 y : Int32} : X 210 53 [.ref 68, .int x1, .int x2, .int x3, .int x4, .int x5] [.int y] (SH L, mi, ml, MR) d Q =
    if (y = 0) then (X 210 62 [.ref 68, .int x1, .int x2, .int x3, .int 0, .int 0] [] (SH L, mi, ml, MR) d Q) else (X 210 41 [.ref 68, .int x1, .int x2, .int (x3 + 1), .int x4, .int x5] [] (SH L, mi, ml, MR) d Q) := by
  refine (R_if_ne (off := 105) (t := 158) (by decide +kernel) (by decide +kernel)).trans (ite_congr rfl (fun c0 => ?_) (fun c0 => ?_))
  · refine (R_iconst (n := 0) (v := 0) (by decide +kernel) (by decide +kernel)).trans ?_
    refine (R_pure0 (ins := .istore 4) (len := 2) (loc' := [.ref 68, .int x1, .int x2, .int x3, .int 0, .int x5]) (st' := []) (by decide +kernel) (fun _ => rfl)).trans ?_
    refine (R_iconst (n := 0) (v := 0) (by decide +kernel) (by decide +kernel)).trans ?_
    refine (R_pure0 (ins := .istore 5) (len := 2) (loc' := [.ref 68, .int x1, .int x2, .int x3, .int 0, .int 0]) (st' := []) (by decide +kernel) (fun _ => rfl)).trans ?_
    rfl
  · refine (R_iinc (k := 3) (n := 1) (x := x3) (v := (x3 + 1)) (loc' := [.ref 68, .int x1, .int x2, .int (x3 + 1), .int x4, .int x5]) (by decide +kernel) rfl rfl rfl).trans ?_
    refine (R_goto (off := (-120)) (t := 41) (by decide +kernel) (by decide +kernel)).trans ?_
    rfl
theorem s211 {L : Nat} {mi : Nat → Nat → Int32} {ml : Nat → Nat → Int64} {d : Nat} {Q : Option Value → xM → Prop} {x1 x3 : Int64} : Xm 211 [.ref 68, .long x1, .long x3] (SH L, mi, ml, MR) d Q =
    X 211 6 [.ref 68, .long x1, xmk, .long x3, xmk, .long x1, xmk, .long x3, xmk, xmk, xmk] [] (SH L, mi, ml, MR) d Q := by
  rw [Xm_ent (n := 11) (loc := [.ref 68, .long x1, xmk, .long x3, xmk, xmk, xmk, xmk, xmk, xmk, xmk]) (by decide +kernel) rfl]
  refine (R_pure0 (ins := .lload_n 1) (len := 1) (loc' := [.ref 68, .long x1, xmk, .long x3, xmk, xmk, xmk, xmk, xmk, xmk, xmk]) (st' := [.long x1]) (by decide +kernel) (fun _ => rfl)).trans ?_
  refine (R_pure0 (ins := .lstore 5) (len := 2) (loc' := [.ref 68, .long x1, xmk, .long x3, xmk, .long x1, xmk, xmk, xmk, xmk, xmk]) (st' := []) (by decide +kernel) (fun _ => rfl)).trans ?_
  refine (R_pure0 (ins := .lload_n 3) (len := 1) (loc' := [.ref 68, .long x1, xmk, .long x3, xmk, .long x1, xmk, xmk, xmk, xmk, xmk]) (st' := [.long x3]) (by decide +kernel) (fun _ => rfl)).trans ?_
  refine (R_pure0 (ins := .lstore 7) (len := 2) (loc' := [.ref 68, .long x1, xmk, .long x3, xmk, .long x1, xmk, .long x3, xmk, xmk, xmk]) (st' := []) (by decide +kernel) (fun _ => rfl)).trans ?_
  rfl
theorem s211_6 {L : Nat} {mi : Nat → Nat → Int32} {ml : Nat → Nat → Int64} {d : Nat} {Q : Option Value → xM → Prop} {x1 x3 x5 x7 : Int64} (h1 : ((lg_cmp x7 0) = 0) → ¬ x5 = 0) (h2 : ((lg_cmp x7 0) = 0) → ¬ x5 = 0) (h3 : ¬ ((lg_cmp x7 0) = 0) → ¬ x7 = 0) : X 211 6 [.ref 68, .long x1, xmk, .long x3, xmk, .long x5, xmk, .long x7, xmk, xmk, xmk] [] (SH L, mi, ml, MR) d Q =
    if ((lg_cmp x7 0) = 0) then (Q (some (.int 1)) (SH L, mi, (xw (xw ml 68 15 (x1 / x5)) 68 16 (x3 / x5)), MR)) else (X 211 6 [.ref 68, .long x1, xmk, .long x3, xmk, .long x7, xmk, .long (x5 - x5 / x7 * x7), xmk, .long (x5 - x5 / x7 * x7), xmk] [] (SH L, mi, ml, MR) d Q) := by
  refine (R_pure0 (ins := .lload 7) (len := 2) (loc' := [.ref 68, .long x1, xmk, .long x3, xmk, .long x5, xmk, .long x7, xmk, xmk, xmk]) (st' := [.long x7]) (by decide +kernel) (fun _ => rfl)).trans ?_
  refine (R_lconst (n := 0) (v := 0) (by decide +kernel) (by decide +kernel)).trans ?_
  refine (R_pure0 (ins := .lcmp) (len := 1) (loc' := [.ref 68, .long x1, xmk, .long x3, xmk, .long x5, xmk, .long x7, xmk, xmk, xmk]) (st' := [.int (lg_cmp x7 0)]) (by decide +kernel) (fun _ => rfl)).trans ?_
  refine (R_if_eq (off := 21) (t := 31) (by decide +kernel) (by decide +kernel)).trans (ite_congr rfl (fun c0 => ?_) (fun c0 => ?_))
  · refine (R_pure0 (ins := .aload_n 0) (len := 1) (loc' := [.ref 68, .long x1, xmk, .long x3, xmk, .long x5, xmk, .long x7, xmk, xmk, xmk]) (st' := [.ref 68]) (by decide +kernel) (fun _ => rfl)).trans ?_
    refine (R_pure0 (ins := .lload_n 1) (len := 1) (loc' := [.ref 68, .long x1, xmk, .long x3, xmk, .long x5, xmk, .long x7, xmk, xmk, xmk]) (st' := [.long x1, .ref 68]) (by decide +kernel) (fun _ => rfl)).trans ?_
    refine (R_pure0 (ins := .lload 5) (len := 2) (loc' := [.ref 68, .long x1, xmk, .long x3, xmk, .long x5, xmk, .long x7, xmk, xmk, xmk]) (st' := [.long x5, .long x1, .ref 68]) (by decide +kernel) (fun _ => rfl)).trans ?_
    refine (R_ldiv (x := x1) (y := x5) (by decide +kernel) (h1 c0)).trans ?_
    refine (R_pl (i := 246) (ci := 10) (k := 15) (n := 33) (by decide +kernel) (by decide +kernel) (by decide) rfl).trans ?_
    refine (R_pure0 (ins := .aload_n 0) (len := 1) (loc' := [.ref 68, .long x1, xmk, .long x3, xmk, .long x5, xmk, .long x7, xmk, xmk, xmk]) (st' := [.ref 68]) (by decide +kernel) (fun _ => rfl)).trans ?_
    refine (R_pure0 (ins := .lload_n 3) (len := 1) (loc' := [.ref 68, .long x1, xmk, .long x3, xmk, .long x5, xmk, .long x7, xmk, xmk, xmk]) (st' := [.long x3, .ref 68]) (by decide +kernel) (fun _ => rfl)).trans ?_
    refine (R_pure0 (ins := .lload 5) (len := 2) (loc' := [.ref 68, .long x1, xmk, .long x3, xmk, .long x5, xmk, .long x7, xmk, xmk, xmk]) (st' := [.long x5, .long x3, .ref 68]) (by decide +kernel) (fun _ => rfl)).trans ?_
    refine (R_ldiv (x := x3) (y := x5) (by decide +kernel) (h2 c0)).trans ?_
    refine (R_pl (i := 47) (ci := 10) (k := 16) (n := 33) (by decide +kernel) (by decide +kernel) (by decide) rfl).trans ?_
    refine (R_iconst (n := 1) (v := 1) (by decide +kernel) (by decide +kernel)).trans ?_
    exact R_ireturn (by decide +kernel) (by decide +kernel)
  · refine (R_pure0 (ins := .lload 5) (len := 2) (loc' := [.ref 68, .long x1, xmk, .long x3, xmk, .long x5, xmk, .long x7, xmk, xmk, xmk]) (st' := [.long x5]) (by decide +kernel) (fun _ => rfl)).trans ?_
    refine (R_pure0 (ins := .lload 7) (len := 2) (loc' := [.ref 68, .long x1, xmk, .long x3, xmk, .long x5, xmk, .long x7, xmk, xmk, xmk]) (st' := [.long x7, .long x5]) (by decide +kernel) (fun _ => rfl)).trans ?_
    refine (R_lrem (x := x5) (y := x7) (by decide +kernel) (h3 c0)).trans ?_
    refine (R_pure0 (ins := .lstore 9) (len := 2) (loc' := [.ref 68, .long x1, xmk, .long x3, xmk, .long x5, xmk, .long x7, xmk, .long (x5 - x5 / x7 * x7), xmk]) (st' := []) (by decide +kernel) (fun _ => rfl)).trans ?_
    refine (R_pure0 (ins := .lload 7) (len := 2) (loc' := [.ref 68, .long x1, xmk, .long x3, xmk, .long x5, xmk, .long x7, xmk, .long (x5 - x5 / x7 * x7), xmk]) (st' := [.long x7]) (by decide +kernel) (fun _ => rfl)).trans ?_
    refine (R_pure0 (ins := .lstore 5) (len := 2) (loc' := [.ref 68, .long x1, xmk, .long x3, xmk, .long x7, xmk, .long x7, xmk, .long (x5 - x5 / x7 * x7), xmk]) (st' := []) (by decide +kernel) (fun _ => rfl)).trans ?_
    refine (R_pure0 (ins := .lload 9) (len := 2) (loc' := [.ref 68, .long x1, xmk, .long x3, xmk, .long x7, xmk, .long x7, xmk, .long (x5 - x5 / x7 * x7), xmk]) (st' := [.long (x5 - x5 / x7 * x7)]) (by decide +kernel) (fun _ => rfl)).trans ?_
    refine (R_pure0 (ins := .lstore 7) (len := 2) (loc' := [.ref 68, .long x1, xmk, .long x3, xmk, .long x7, xmk, .long (x5 - x5 / x7 * x7), xmk, .long (x5 - x5 / x7 * x7), xmk]) (st' := []) (by decide +kernel) (fun _ => rfl)).trans ?_
    refine (R_goto (off := (-22)) (t := 6) (by decide +kernel) (by decide +kernel)).trans ?_
    rfl
theorem s211_6v2 {L : Nat} {mi : Nat → Nat → Int32} {ml : Nat → Nat → Int64} {d : Nat} {Q : Option Value → xM → Prop} {x1 x3 x5 x7 x9 : Int64} (h1 : ((lg_cmp x7 0) = 0) → ¬ x5 = 0) (h2 : ((lg_cmp x7 0) = 0) → ¬ x5 = 0) (h3 : ¬ ((lg_cmp x7 0) = 0) → ¬ x7 = 0) : X 211 6 [.ref 68, .long x1, xmk, .long x3, xmk, .long x5, xmk, .long x7, xmk, .long x9, xmk] [] (SH L, mi, ml, MR) d Q =
    if ((lg_cmp x7 0) = 0) then (Q (some (.int 1)) (SH L, mi, (xw (xw ml 68 15 (x1 / x5)) 68 16 (x3 / x5)), MR)) else (X 211 6 [.ref 68, .long x1, xmk, .long x3, xmk, .long x7, xmk, .long (x5 - x5 / x7 * x7), xmk, .long (x5 - x5 / x7 * x7), xmk] [] (SH L, mi, ml, MR) d Q) := by
  refine (R_pure0 (ins := .lload 7) (len := 2) (loc' := [.ref 68, .long x1, xmk, .long x3, xmk, .long x5, xmk, .long x7, xmk, .long x9, xmk]) (st' := [.long x7]) (by decide +kernel) (fun _ => rfl)).trans ?_
  refine (R_lconst (n := 0) (v := 0) (by decide +kernel) (by decide +kernel)).trans ?_
  refine (R_pure0 (ins := .lcmp) (len := 1) (loc' := [.ref 68, .long x1, xmk, .long x3, xmk, .long x5, xmk, .long x7, xmk, .long x9, xmk]) (st' := [.int (lg_cmp x7 0)]) (by decide +kernel) (fun _ => rfl)).trans ?_
  refine (R_if_eq (off := 21) (t := 31) (by decide +kernel) (by decide +kernel)).trans (ite_congr rfl (fun c0 => ?_) (fun c0 => ?_))
  · refine (R_pure0 (ins := .aload_n 0) (len := 1) (loc' := [.ref 68, .long x1, xmk, .long x3, xmk, .long x5, xmk, .long x7, xmk, .long x9, xmk]) (st' := [.ref 68]) (by decide +kernel) (fun _ => rfl)).trans ?_
    refine (R_pure0 (ins := .lload_n 1) (len := 1) (loc' := [.ref 68, .long x1, xmk, .long x3, xmk, .long x5, xmk, .long x7, xmk, .long x9, xmk]) (st' := [.long x1, .ref 68]) (by decide +kernel) (fun _ => rfl)).trans ?_
    refine (R_pure0 (ins := .lload 5) (len := 2) (loc' := [.ref 68, .long x1, xmk, .long x3, xmk, .long x5, xmk, .long x7, xmk, .long x9, xmk]) (st' := [.long x5, .long x1, .ref 68]) (by decide +kernel) (fun _ => rfl)).trans ?_
    refine (R_ldiv (x := x1) (y := x5) (by decide +kernel) (h1 c0)).trans ?_
    refine (R_pl (i := 246) (ci := 10) (k := 15) (n := 33) (by decide +kernel) (by decide +kernel) (by decide) rfl).trans ?_
    refine (R_pure0 (ins := .aload_n 0) (len := 1) (loc' := [.ref 68, .long x1, xmk, .long x3, xmk, .long x5, xmk, .long x7, xmk, .long x9, xmk]) (st' := [.ref 68]) (by decide +kernel) (fun _ => rfl)).trans ?_
    refine (R_pure0 (ins := .lload_n 3) (len := 1) (loc' := [.ref 68, .long x1, xmk, .long x3, xmk, .long x5, xmk, .long x7, xmk, .long x9, xmk]) (st' := [.long x3, .ref 68]) (by decide +kernel) (fun _ => rfl)).trans ?_
    refine (R_pure0 (ins := .lload 5) (len := 2) (loc' := [.ref 68, .long x1, xmk, .long x3, xmk, .long x5, xmk, .long x7, xmk, .long x9, xmk]) (st' := [.long x5, .long x3, .ref 68]) (by decide +kernel) (fun _ => rfl)).trans ?_
    refine (R_ldiv (x := x3) (y := x5) (by decide +kernel) (h2 c0)).trans ?_
    refine (R_pl (i := 47) (ci := 10) (k := 16) (n := 33) (by decide +kernel) (by decide +kernel) (by decide) rfl).trans ?_
    refine (R_iconst (n := 1) (v := 1) (by decide +kernel) (by decide +kernel)).trans ?_
    exact R_ireturn (by decide +kernel) (by decide +kernel)
  · refine (R_pure0 (ins := .lload 5) (len := 2) (loc' := [.ref 68, .long x1, xmk, .long x3, xmk, .long x5, xmk, .long x7, xmk, .long x9, xmk]) (st' := [.long x5]) (by decide +kernel) (fun _ => rfl)).trans ?_
    refine (R_pure0 (ins := .lload 7) (len := 2) (loc' := [.ref 68, .long x1, xmk, .long x3, xmk, .long x5, xmk, .long x7, xmk, .long x9, xmk]) (st' := [.long x7, .long x5]) (by decide +kernel) (fun _ => rfl)).trans ?_
    refine (R_lrem (x := x5) (y := x7) (by decide +kernel) (h3 c0)).trans ?_
    refine (R_pure0 (ins := .lstore 9) (len := 2) (loc' := [.ref 68, .long x1, xmk, .long x3, xmk, .long x5, xmk, .long x7, xmk, .long (x5 - x5 / x7 * x7), xmk]) (st' := []) (by decide +kernel) (fun _ => rfl)).trans ?_
    refine (R_pure0 (ins := .lload 7) (len := 2) (loc' := [.ref 68, .long x1, xmk, .long x3, xmk, .long x5, xmk, .long x7, xmk, .long (x5 - x5 / x7 * x7), xmk]) (st' := [.long x7]) (by decide +kernel) (fun _ => rfl)).trans ?_
    refine (R_pure0 (ins := .lstore 5) (len := 2) (loc' := [.ref 68, .long x1, xmk, .long x3, xmk, .long x7, xmk, .long x7, xmk, .long (x5 - x5 / x7 * x7), xmk]) (st' := []) (by decide +kernel) (fun _ => rfl)).trans ?_
    refine (R_pure0 (ins := .lload 9) (len := 2) (loc' := [.ref 68, .long x1, xmk, .long x3, xmk, .long x7, xmk, .long x7, xmk, .long (x5 - x5 / x7 * x7), xmk]) (st' := [.long (x5 - x5 / x7 * x7)]) (by decide +kernel) (fun _ => rfl)).trans ?_
    refine (R_pure0 (ins := .lstore 7) (len := 2) (loc' := [.ref 68, .long x1, xmk, .long x3, xmk, .long x7, xmk, .long (x5 - x5 / x7 * x7), xmk, .long (x5 - x5 / x7 * x7), xmk]) (st' := []) (by decide +kernel) (fun _ => rfl)).trans ?_
    refine (R_goto (off := (-22)) (t := 6) (by decide +kernel) (by decide +kernel)).trans ?_
    rfl
theorem s212 {L : Nat} {mi : Nat → Nat → Int32} {ml : Nat → Nat → Int64} {d : Nat} {Q : Option Value → xM → Prop} {x1 : Int32} : Xm 212 [.ref 68, .int x1] (SH L, mi, ml, MR) (d + 1) Q =
    Xm 155 [.int x1] (SH L, mi, ml, MR) d (fun v μ' => X 212 4 [.ref 68, .int x1, xmk] (v.toList ++ []) μ' (d + 1) Q) := by
  rw [Xm_ent (n := 3) (loc := [.ref 68, .int x1, xmk]) (by decide +kernel) rfl]
  refine (R_pure0 (ins := .iload_n 1) (len := 1) (loc' := [.ref 68, .int x1, xmk]) (st' := [.int x1]) (by decide +kernel) (fun _ => rfl)).trans ?_
  refine (R_static (i := 93) (f := 155) (kd := 2) (na := 1) (ml := 1) (As := [.int x1]) (rest := []) (by decide +kernel) (by decide +kernel) (by decide) (by decide +kernel) rfl rfl (by decide +kernel) (Nat.le_of_ble_eq_true rfl)).trans ?_
  rfl
theorem s212_4 {L : Nat} {mi : Nat → Nat → Int32} {ml : Nat → Nat → Int64} {d : Nat} {Q : Option Value → xM → Prop} {x1 y : Int32} : X 212 4 [.ref 68, .int x1, xmk] [.int y] (SH L, mi, ml, MR) (d + 1) Q =
    if (y = 0) then (Q (some (.int (-1))) (SH L, mi, ml, MR)) else (Xm 206 [.ref 68, .int x1] (SH L, mi, ml, MR) d (fun v μ' => X 212 14 [.ref 68, .int x1, xmk] (v.toList ++ []) μ' (d + 1) Q)) := by
  refine (R_if_ne (off := 5) (t := 9) (by decide +kernel) (by decide +kernel)).trans (ite_congr rfl (fun c0 => ?_) (fun c0 => ?_))
  · refine (R_iconst (n := (-1)) (v := (-1)) (by decide +kernel) (by decide +kernel)).trans ?_
    exact R_ireturn (by decide +kernel) (by decide +kernel)
  · refine (R_pure0 (ins := .aload_n 0) (len := 1) (loc' := [.ref 68, .int x1, xmk]) (st' := [.ref 68]) (by decide +kernel) (fun _ => rfl)).trans ?_
    refine (R_pure0 (ins := .iload_n 1) (len := 1) (loc' := [.ref 68, .int x1, xmk]) (st' := [.int x1, .ref 68]) (by decide +kernel) (fun _ => rfl)).trans ?_
    refine (R_virt (i := 225) (f := 206) (kd := 0) (na := 1) (ml := 3) (ci := 10) (n := 33) (b := 68) (As := [.int x1]) (rest := []) (by decide +kernel) (by decide +kernel) (by decide) (by decide +kernel) rfl (by decide +kernel) rfl rfl (by decide +kernel) (Nat.le_of_ble_eq_true rfl)).trans ?_
    rfl
theorem s212_14 {L : Nat} {mi : Nat → Nat → Int32} {ml : Nat → Nat → Int64} {d : Nat} {Q : Option Value → xM → Prop} {x1 y : Int32} : X 212 14 [.ref 68, .int x1, xmk] [.int y] (SH L, mi, ml, MR) (d + 1) Q =
    if (y = 0) then (Xm 210 [.ref 68, .int x1] (SH L, mi, ml, MR) d (fun v μ' => X 212 26 [.ref 68, .int x1, .int y] (v.toList ++ []) μ' (d + 1) Q)) else (Q (some (.int y)) (SH L, mi, ml, MR)) := by
  refine (R_pure0 (ins := .istore_n 2) (len := 1) (loc' := [.ref 68, .int x1, .int y]) (st' := []) (by decide +kernel) (fun _ => rfl)).trans ?_
  refine (R_pure0 (ins := .iload_n 2) (len := 1) (loc' := [.ref 68, .int x1, .int y]) (st' := [.int y]) (by decide +kernel) (fun _ => rfl)).trans ?_
  refine (R_if_eq (off := 5) (t := 21) (by decide +kernel) (by decide +kernel)).trans (ite_congr rfl (fun c0 => ?_) (fun c0 => ?_))
  · refine (R_pure0 (ins := .aload_n 0) (len := 1) (loc' := [.ref 68, .int x1, .int y]) (st' := [.ref 68]) (by decide +kernel) (fun _ => rfl)).trans ?_
    refine (R_pure0 (ins := .iload_n 1) (len := 1) (loc' := [.ref 68, .int x1, .int y]) (st' := [.int x1, .ref 68]) (by decide +kernel) (fun _ => rfl)).trans ?_
    refine (R_virt (i := 249) (f := 210) (kd := 0) (na := 1) (ml := 6) (ci := 10) (n := 33) (b := 68) (As := [.int x1]) (rest := []) (by decide +kernel) (by decide +kernel) (by decide) (by decide +kernel) rfl (by decide +kernel) rfl rfl (by decide +kernel) (Nat.le_of_ble_eq_true rfl)).trans ?_
    rfl
  · refine (R_pure0 (ins := .iload_n 2) (len := 1) (loc' := [.ref 68, .int x1, .int y]) (st' := [.int y]) (by decide +kernel) (fun _ => rfl)).trans ?_
    exact R_ireturn (by decide +kernel) (by decide +kernel)
theorem s212_26 {L : Nat} {mi : Nat → Nat → Int32} {ml : Nat → Nat → Int64} {d : Nat} {Q : Option Value → xM → Prop} {x1 x2 : Int32} : X 212 26 [.ref 68, .int x1, .int x2] [] (SH L, mi, ml, MR) (d + 1) Q =
    Xm 211 [.ref 68, .long ((xw mi 68 14 (mi 68 26)) 68 25).toInt64, .long 1] (SH L, (xw mi 68 14 (mi 68 26)), ml, MR) d (fun v μ' => X 212 44 [.ref 68, .int x1, .int x2] (v.toList ++ []) μ' (d + 1) Q) := by
  refine (R_pure0 (ins := .aload_n 0) (len := 1) (loc' := [.ref 68, .int x1, .int x2]) (st' := [.ref 68]) (by decide +kernel) (fun _ => rfl)).trans ?_
  refine (R_pure0 (ins := .aload_n 0) (len := 1) (loc' := [.ref 68, .int x1, .int x2]) (st' := [.ref 68, .ref 68]) (by decide +kernel) (fun _ => rfl)).trans ?_
  refine (R_gi (i := 237) (ci := 10) (k := 26) (n := 33) (by decide +kernel) (by decide +kernel) (by decide) rfl).trans ?_
  refine (R_pi (i := 82) (ci := 10) (k := 14) (n := 33) (by decide +kernel) (by decide +kernel) (by decide) rfl).trans ?_
  refine (R_pure0 (ins := .aload_n 0) (len := 1) (loc' := [.ref 68, .int x1, .int x2]) (st' := [.ref 68]) (by decide +kernel) (fun _ => rfl)).trans ?_
  refine (R_pure0 (ins := .aload_n 0) (len := 1) (loc' := [.ref 68, .int x1, .int x2]) (st' := [.ref 68, .ref 68]) (by decide +kernel) (fun _ => rfl)).trans ?_
  refine (R_gi (i := 234) (ci := 10) (k := 25) (n := 33) (by decide +kernel) (by decide +kernel) (by decide) rfl).trans ?_
  refine (R_pure0 (ins := .i2l) (len := 1) (loc' := [.ref 68, .int x1, .int x2]) (st' := [.long ((xw mi 68 14 (mi 68 26)) 68 25).toInt64, .ref 68]) (by decide +kernel) (fun _ => rfl)).trans ?_
  refine (R_lconst (n := 1) (v := 1) (by decide +kernel) (by decide +kernel)).trans ?_
  refine (R_virt (i := 252) (f := 211) (kd := 0) (na := 2) (ml := 11) (ci := 10) (n := 33) (b := 68) (As := [.long ((xw mi 68 14 (mi 68 26)) 68 25).toInt64, .long 1]) (rest := []) (by decide +kernel) (by decide +kernel) (by decide) (by decide +kernel) rfl (by decide +kernel) rfl rfl (by decide +kernel) (Nat.le_of_ble_eq_true rfl)).trans ?_
  rfl
theorem s212_44 {L : Nat} {mi : Nat → Nat → Int32} {ml : Nat → Nat → Int64} {d : Nat} {Q : Option Value → xM → Prop} {x1 x2 y : Int32} : X 212 44 [.ref 68, .int x1, .int x2] [.int y] (SH L, mi, ml, MR) d Q =
    Q (some (.int y)) (SH L, mi, ml, MR) := by
  exact R_ireturn (by decide +kernel) (by decide +kernel)
theorem s213 {L : Nat} {mi : Nat → Nat → Int32} {ml : Nat → Nat → Int64} {d : Nat} {Q : Option Value → xM → Prop} {x1 : Int32} : Xm 213 [.ref 68, .int x1] (SH L, mi, ml, MR) (d + 1) Q =
    Xm 155 [.int x1] (SH L, mi, ml, MR) d (fun v μ' => X 213 4 [.ref 68, .int x1, xmk] (v.toList ++ []) μ' (d + 1) Q) := by
  rw [Xm_ent (n := 3) (loc := [.ref 68, .int x1, xmk]) (by decide +kernel) rfl]
  refine (R_pure0 (ins := .iload_n 1) (len := 1) (loc' := [.ref 68, .int x1, xmk]) (st' := [.int x1]) (by decide +kernel) (fun _ => rfl)).trans ?_
  refine (R_static (i := 93) (f := 155) (kd := 2) (na := 1) (ml := 1) (As := [.int x1]) (rest := []) (by decide +kernel) (by decide +kernel) (by decide) (by decide +kernel) rfl rfl (by decide +kernel) (Nat.le_of_ble_eq_true rfl)).trans ?_
  rfl
theorem s213_4 {L : Nat} {mi : Nat → Nat → Int32} {ml : Nat → Nat → Int64} {d : Nat} {Q : Option Value → xM → Prop} {x1 y : Int32} : X 213 4 [.ref 68, .int x1, xmk] [.int y] (SH L, mi, ml, MR) (d + 1) Q =
    if (y = 0) then (Q (some (.int (-1))) (SH L, mi, ml, MR)) else (Xm 206 [.ref 68, .int x1] (SH L, mi, ml, MR) d (fun v μ' => X 213 14 [.ref 68, .int x1, xmk] (v.toList ++ []) μ' (d + 1) Q)) := by
  refine (R_if_ne (off := 5) (t := 9) (by decide +kernel) (by decide +kernel)).trans (ite_congr rfl (fun c0 => ?_) (fun c0 => ?_))
  · refine (R_iconst (n := (-1)) (v := (-1)) (by decide +kernel) (by decide +kernel)).trans ?_
    exact R_ireturn (by decide +kernel) (by decide +kernel)
  · refine (R_pure0 (ins := .aload_n 0) (len := 1) (loc' := [.ref 68, .int x1, xmk]) (st' := [.ref 68]) (by decide +kernel) (fun _ => rfl)).trans ?_
    refine (R_pure0 (ins := .iload_n 1) (len := 1) (loc' := [.ref 68, .int x1, xmk]) (st' := [.int x1, .ref 68]) (by decide +kernel) (fun _ => rfl)).trans ?_
    refine (R_virt (i := 225) (f := 206) (kd := 0) (na := 1) (ml := 3) (ci := 10) (n := 33) (b := 68) (As := [.int x1]) (rest := []) (by decide +kernel) (by decide +kernel) (by decide) (by decide +kernel) rfl (by decide +kernel) rfl rfl (by decide +kernel) (Nat.le_of_ble_eq_true rfl)).trans ?_
    rfl
theorem s213_14 {L : Nat} {mi : Nat → Nat → Int32} {ml : Nat → Nat → Int64} {d : Nat} {Q : Option Value → xM → Prop} {x1 y : Int32} : X 213 14 [.ref 68, .int x1, xmk] [.int y] (SH L, mi, ml, MR) (d + 1) Q =
    if (y = 0) then (Xm 210 [.ref 68, .int x1] (SH L, mi, ml, MR) d (fun v μ' => X 213 26 [.ref 68, .int x1, .int y] (v.toList ++ []) μ' (d + 1) Q)) else (Q (some (.int y)) (SH L, mi, ml, MR)) := by
  refine (R_pure0 (ins := .istore_n 2) (len := 1) (loc' := [.ref 68, .int x1, .int y]) (st' := []) (by decide +kernel) (fun _ => rfl)).trans ?_
  refine (R_pure0 (ins := .iload_n 2) (len := 1) (loc' := [.ref 68, .int x1, .int y]) (st' := [.int y]) (by decide +kernel) (fun _ => rfl)).trans ?_
  refine (R_if_eq (off := 5) (t := 21) (by decide +kernel) (by decide +kernel)).trans (ite_congr rfl (fun c0 => ?_) (fun c0 => ?_))
  · refine (R_pure0 (ins := .aload_n 0) (len := 1) (loc' := [.ref 68, .int x1, .int y]) (st' := [.ref 68]) (by decide +kernel) (fun _ => rfl)).trans ?_
    refine (R_pure0 (ins := .iload_n 1) (len := 1) (loc' := [.ref 68, .int x1, .int y]) (st' := [.int x1, .ref 68]) (by decide +kernel) (fun _ => rfl)).trans ?_
    refine (R_virt (i := 249) (f := 210) (kd := 0) (na := 1) (ml := 6) (ci := 10) (n := 33) (b := 68) (As := [.int x1]) (rest := []) (by decide +kernel) (by decide +kernel) (by decide) (by decide +kernel) rfl (by decide +kernel) rfl rfl (by decide +kernel) (Nat.le_of_ble_eq_true rfl)).trans ?_
    rfl
  · refine (R_pure0 (ins := .iload_n 2) (len := 1) (loc' := [.ref 68, .int x1, .int y]) (st' := [.int y]) (by decide +kernel) (fun _ => rfl)).trans ?_
    exact R_ireturn (by decide +kernel) (by decide +kernel)
theorem s213_26 {L : Nat} {mi : Nat → Nat → Int32} {ml : Nat → Nat → Int64} {d : Nat} {Q : Option Value → xM → Prop} {x1 x2 : Int32} : X 213 26 [.ref 68, .int x1, .int x2] [] (SH L, mi, ml, MR) (d + 1) Q =
    if ((mi 68 25) = 0) then (Xm 152 [.ref 68, .int 4] (SH L, mi, ml, MR) d (fun v μ' => X 213 38 [.ref 68, .int x1, .int x2] (v.toList ++ []) μ' (d + 1) Q)) else (Xm 154 [.ref 68, .int (((1 <<< ((mi 68 4) &&& 31)) - 1) &&& ((mi 68 27) ^^^ (-1))), .int (mi 68 28)] (SH L, mi, ml, MR) d (fun v μ' => X 213 64 [.ref 68, .int x1, .int x2] (v.toList ++ []) μ' (d + 1) Q)) := by
  refine (R_pure0 (ins := .aload_n 0) (len := 1) (loc' := [.ref 68, .int x1, .int x2]) (st' := [.ref 68]) (by decide +kernel) (fun _ => rfl)).trans ?_
  refine (R_gi (i := 234) (ci := 10) (k := 25) (n := 33) (by decide +kernel) (by decide +kernel) (by decide) rfl).trans ?_
  refine (R_if_ne (off := 11) (t := 41) (by decide +kernel) (by decide +kernel)).trans (ite_congr rfl (fun c0 => ?_) (fun c0 => ?_))
  · refine (R_pure0 (ins := .aload_n 0) (len := 1) (loc' := [.ref 68, .int x1, .int x2]) (st' := [.ref 68]) (by decide +kernel) (fun _ => rfl)).trans ?_
    refine (R_iconst (n := 4) (v := 4) (by decide +kernel) (by decide +kernel)).trans ?_
    refine (R_virt (i := 97) (f := 152) (kd := 0) (na := 1) (ml := 2) (ci := 10) (n := 33) (b := 68) (As := [.int 4]) (rest := []) (by decide +kernel) (by decide +kernel) (by decide) (by decide +kernel) rfl (by decide +kernel) rfl rfl (by decide +kernel) (Nat.le_of_ble_eq_true rfl)).trans ?_
    rfl
  · refine (R_pure0 (ins := .aload_n 0) (len := 1) (loc' := [.ref 68, .int x1, .int x2]) (st' := [.ref 68]) (by decide +kernel) (fun _ => rfl)).trans ?_
    refine (R_iconst (n := 1) (v := 1) (by decide +kernel) (by decide +kernel)).trans ?_
    refine (R_pure0 (ins := .aload_n 0) (len := 1) (loc' := [.ref 68, .int x1, .int x2]) (st' := [.ref 68, .int 1, .ref 68]) (by decide +kernel) (fun _ => rfl)).trans ?_
    refine (R_gi (i := 131) (ci := 10) (k := 4) (n := 33) (by decide +kernel) (by decide +kernel) (by decide) rfl).trans ?_
    refine (R_pure0 (ins := .ishl) (len := 1) (loc' := [.ref 68, .int x1, .int x2]) (st' := [.int (1 <<< ((mi 68 4) &&& 31)), .ref 68]) (by decide +kernel) (fun _ => rfl)).trans ?_
    refine (R_iconst (n := 1) (v := 1) (by decide +kernel) (by decide +kernel)).trans ?_
    refine (R_pure0 (ins := .isub) (len := 1) (loc' := [.ref 68, .int x1, .int x2]) (st' := [.int ((1 <<< ((mi 68 4) &&& 31)) - 1), .ref 68]) (by decide +kernel) (fun _ => rfl)).trans ?_
    refine (R_pure0 (ins := .aload_n 0) (len := 1) (loc' := [.ref 68, .int x1, .int x2]) (st' := [.ref 68, .int ((1 <<< ((mi 68 4) &&& 31)) - 1), .ref 68]) (by decide +kernel) (fun _ => rfl)).trans ?_
    refine (R_gi (i := 240) (ci := 10) (k := 27) (n := 33) (by decide +kernel) (by decide +kernel) (by decide) rfl).trans ?_
    refine (R_iconst (n := (-1)) (v := (-1)) (by decide +kernel) (by decide +kernel)).trans ?_
    refine (R_pure0 (ins := .ixor) (len := 1) (loc' := [.ref 68, .int x1, .int x2]) (st' := [.int ((mi 68 27) ^^^ (-1)), .int ((1 <<< ((mi 68 4) &&& 31)) - 1), .ref 68]) (by decide +kernel) (fun _ => rfl)).trans ?_
    refine (R_pure0 (ins := .iand) (len := 1) (loc' := [.ref 68, .int x1, .int x2]) (st' := [.int (((1 <<< ((mi 68 4) &&& 31)) - 1) &&& ((mi 68 27) ^^^ (-1))), .ref 68]) (by decide +kernel) (fun _ => rfl)).trans ?_
    refine (R_pure0 (ins := .aload_n 0) (len := 1) (loc' := [.ref 68, .int x1, .int x2]) (st' := [.ref 68, .int (((1 <<< ((mi 68 4) &&& 31)) - 1) &&& ((mi 68 27) ^^^ (-1))), .ref 68]) (by decide +kernel) (fun _ => rfl)).trans ?_
    refine (R_gi (i := 243) (ci := 10) (k := 28) (n := 33) (by decide +kernel) (by decide +kernel) (by decide) rfl).trans ?_
    refine (R_virt (i := 215) (f := 154) (kd := 0) (na := 2) (ml := 3) (ci := 10) (n := 33) (b := 68) (As := [.int (((1 <<< ((mi 68 4) &&& 31)) - 1) &&& ((mi 68 27) ^^^ (-1))), .int (mi 68 28)]) (rest := []) (by decide +kernel) (by decide +kernel) (by decide) (by decide +kernel) rfl (by decide +kernel) rfl rfl (by decide +kernel) (Nat.le_of_ble_eq_true rfl)).trans ?_
    rfl
theorem s213_38 {L : Nat} {mi : Nat → Nat → Int32} {ml : Nat → Nat → Int64} {d : Nat} {Q : Option Value → xM → Prop} {x1 x2 y : Int32} : X 213 38 [.ref 68, .int x1, .int x2] [.int y] (SH L, mi, ml, MR) d Q =
    Q (some (.int y)) (SH L, mi, ml, MR) := by
  refine (R_goto (off := 26) (t := 64) (by decide +kernel) (by decide +kernel)).trans ?_
  exact R_ireturn (by decide +kernel) (by decide +kernel)
theorem s213_64 {L : Nat} {mi : Nat → Nat → Int32} {ml : Nat → Nat → Int64} {d : Nat} {Q : Option Value → xM → Prop} {x1 x2 y : Int32} : X 213 64 [.ref 68, .int x1, .int x2] [.int y] (SH L, mi, ml, MR) d Q =
    Q (some (.int y)) (SH L, mi, ml, MR) := by
  exact R_ireturn (by decide +kernel) (by decide +kernel)
theorem s214 {L : Nat} {mi : Nat → Nat → Int32} {ml : Nat → Nat → Int64} {d : Nat} {Q : Option Value → xM → Prop} {x1 : Int32} : Xm 214 [.ref 68, .int x1] (SH L, mi, ml, MR) (d + 1) Q =
    Xm 149 [.long x1.toInt64, .long 0, .long 9] (SH L, mi, ml, MR) d (fun v μ' => X 214 9 [.ref 68, .int x1, xmk, xmk, xmk, xmk] (v.toList ++ []) μ' (d + 1) Q) := by
  rw [Xm_ent (n := 6) (loc := [.ref 68, .int x1, xmk, xmk, xmk, xmk]) (by decide +kernel) rfl]
  refine (R_pure0 (ins := .iload_n 1) (len := 1) (loc' := [.ref 68, .int x1, xmk, xmk, xmk, xmk]) (st' := [.int x1]) (by decide +kernel) (fun _ => rfl)).trans ?_
  refine (R_pure0 (ins := .i2l) (len := 1) (loc' := [.ref 68, .int x1, xmk, xmk, xmk, xmk]) (st' := [.long x1.toInt64]) (by decide +kernel) (fun _ => rfl)).trans ?_
  refine (R_lconst (n := 0) (v := 0) (by decide +kernel) (by decide +kernel)).trans ?_
  refine (R_ldc2 (i := 119) (v := 9) (by decide +kernel) (by decide +kernel)).trans ?_
  refine (R_static (i := 87) (f := 149) (kd := 2) (na := 3) (ml := 6) (As := [.long x1.toInt64, .long 0, .long 9]) (rest := []) (by decide +kernel) (by decide +kernel) (by decide) (by decide +kernel) rfl rfl (by decide +kernel) (Nat.le_of_ble_eq_true rfl)).trans ?_
  rfl
theorem s214_9 {L : Nat} {mi : Nat → Nat → Int32} {ml : Nat → Nat → Int64} {d : Nat} {Q : Option Value → xM → Prop} {x1 y : Int32} : X 214 9 [.ref 68, .int x1, xmk, xmk, xmk, xmk] [.int y] (SH L, mi, ml, MR) d Q =
    if (y = 0) then (Q (some (.int (-1))) (SH L, mi, ml, MR)) else (if ((mi 68 4) = 0) then (Q (some (.int (-4))) (SH L, mi, ml, MR)) else (X 214 31 [.ref 68, .int x1, .int 0, .int 0, .int 0, xmk] [] (SH L, mi, ml, MR) d Q)) := by
  refine (R_if_ne (off := 5) (t := 14) (by decide +kernel) (by decide +kernel)).trans (ite_congr rfl (fun c0 => ?_) (fun c0 => ?_))
  · refine (R_iconst (n := (-1)) (v := (-1)) (by decide +kernel) (by decide +kernel)).trans ?_
    exact R_ireturn (by decide +kernel) (by decide +kernel)
  · refine (R_pure0 (ins := .aload_n 0) (len := 1) (loc' := [.ref 68, .int x1, xmk, xmk, xmk, xmk]) (st' := [.ref 68]) (by decide +kernel) (fun _ => rfl)).trans ?_
    refine (R_gi (i := 131) (ci := 10) (k := 4) (n := 33) (by decide +kernel) (by decide +kernel) (by decide) rfl).trans ?_
    refine (R_if_ne (off := 6) (t := 24) (by decide +kernel) (by decide +kernel)).trans (ite_congr rfl (fun c1 => ?_) (fun c1 => ?_))
    · refine (R_bipush (n := (-4)) (v := (-4)) (by decide +kernel) (by decide +kernel)).trans ?_
      exact R_ireturn (by decide +kernel) (by decide +kernel)
    · refine (R_iconst (n := 0) (v := 0) (by decide +kernel) (by decide +kernel)).trans ?_
      refine (R_pure0 (ins := .istore_n 2) (len := 1) (loc' := [.ref 68, .int x1, .int 0, xmk, xmk, xmk]) (st' := []) (by decide +kernel) (fun _ => rfl)).trans ?_
      refine (R_iconst (n := 0) (v := 0) (by decide +kernel) (by decide +kernel)).trans ?_
      refine (R_pure0 (ins := .istore_n 3) (len := 1) (loc' := [.ref 68, .int x1, .int 0, .int 0, xmk, xmk]) (st' := []) (by decide +kernel) (fun _ => rfl)).trans ?_
      refine (R_iconst (n := 0) (v := 0) (by decide +kernel) (by decide +kernel)).trans ?_
      refine (R_pure0 (ins := .istore 4) (len := 2) (loc' := [.ref 68, .int x1, .int 0, .int 0, .int 0, xmk]) (st' := []) (by decide +kernel) (fun _ => rfl)).trans ?_
      rfl
theorem s214_31 {L : Nat} {mi : Nat → Nat → Int32} {ml : Nat → Nat → Int64} {d : Nat} {Q : Option Value → xM → Prop} {x1 x2 x3 x4 : Int32} (h1 : (x4 < (mi 68 4)) → xin (6 + x4) 15 = true) : X 214 31 [.ref 68, .int x1, .int x2, .int x3, .int x4, xmk] [] (SH L, mi, ml, MR) (d + 1) Q =
    if (x4 < (mi 68 4)) then (X 214 52 [.ref 68, .int x1, .int x2, .int x3, .int x4, .int (mi 77 (6 + x4).toNatClampNeg)] [] (SH L, mi, ml, MR) (d + 1) Q) else (Xm 154 [.ref 68, .int x2, .int x3] (SH L, mi, ml, MR) d (fun v μ' => X 214 139 [.ref 68, .int x1, .int x2, .int x3, .int x4, xmk] (v.toList ++ []) μ' (d + 1) Q)) := by
  refine (R_pure0 (ins := .iload 4) (len := 2) (loc' := [.ref 68, .int x1, .int x2, .int x3, .int x4, xmk]) (st' := [.int x4]) (by decide +kernel) (fun _ => rfl)).trans ?_
  refine (R_pure0 (ins := .aload_n 0) (len := 1) (loc' := [.ref 68, .int x1, .int x2, .int x3, .int x4, xmk]) (st' := [.ref 68, .int x4]) (by decide +kernel) (fun _ => rfl)).trans ?_
  refine (R_gi (i := 131) (ci := 10) (k := 4) (n := 33) (by decide +kernel) (by decide +kernel) (by decide) rfl).trans ?_
  refine (R_icmp_ge (off := 96) (t := 133) (by decide +kernel) (by decide +kernel)).trans (ite_congr rfl (fun c0 => ?_) (fun c0 => ?_))
  · refine (R_pure0 (ins := .aload_n 0) (len := 1) (loc' := [.ref 68, .int x1, .int x2, .int x3, .int x4, xmk]) (st' := [.ref 68]) (by decide +kernel) (fun _ => rfl)).trans ?_
    refine (R_gr (i := 34) (ci := 10) (k := 9) (n := 33) (b := 77) (by decide +kernel) (by decide +kernel) (by decide) rfl (SH_ref (by decide +kernel))).trans ?_
    refine (R_bipush (n := 6) (v := 6) (by decide +kernel) (by decide +kernel)).trans ?_
    refine (R_pure0 (ins := .iload 4) (len := 2) (loc' := [.ref 68, .int x1, .int x2, .int x3, .int x4, xmk]) (st' := [.int x4, .int 6, .ref 77]) (by decide +kernel) (fun _ => rfl)).trans ?_
    refine (R_pure0 (ins := .iadd) (len := 1) (loc' := [.ref 68, .int x1, .int x2, .int x3, .int x4, xmk]) (st' := [.int (6 + x4), .ref 77]) (by decide +kernel) (fun _ => rfl)).trans ?_
    refine (R_iaload (kd := 100) (n := 15) (by decide +kernel) rfl (by decide) (h1 c0)).trans ?_
    refine (R_pure0 (ins := .istore 5) (len := 2) (loc' := [.ref 68, .int x1, .int x2, .int x3, .int x4, .int (mi 77 (6 + x4).toNatClampNeg)]) (st' := []) (by decide +kernel) (fun _ => rfl)).trans ?_
    rfl
  · refine (R_pure0 (ins := .aload_n 0) (len := 1) (loc' := [.ref 68, .int x1, .int x2, .int x3, .int x4, xmk]) (st' := [.ref 68]) (by decide +kernel) (fun _ => rfl)).trans ?_
    refine (R_pure0 (ins := .iload_n 2) (len := 1) (loc' := [.ref 68, .int x1, .int x2, .int x3, .int x4, xmk]) (st' := [.int x2, .ref 68]) (by decide +kernel) (fun _ => rfl)).trans ?_
    refine (R_pure0 (ins := .iload_n 3) (len := 1) (loc' := [.ref 68, .int x1, .int x2, .int x3, .int x4, xmk]) (st' := [.int x3, .int x2, .ref 68]) (by decide +kernel) (fun _ => rfl)).trans ?_
    refine (R_virt (i := 215) (f := 154) (kd := 0) (na := 2) (ml := 3) (ci := 10) (n := 33) (b := 68) (As := [.int x2, .int x3]) (rest := []) (by decide +kernel) (by decide +kernel) (by decide) (by decide +kernel) rfl (by decide +kernel) rfl rfl (by decide +kernel) (Nat.le_of_ble_eq_true rfl)).trans ?_
    rfl
theorem s214_52 {L : Nat} {mi : Nat → Nat → Int32} {ml : Nat → Nat → Int64} {d : Nat} {Q : Option Value → xM → Prop} {x1 x2 x3 x4 x5 : Int32} (h1 : ¬ (x5 < 9) → xin (6 + x4) 15 = true) (h2 : ¬ (x5 < 9) → xin (6 + x4) 15 = true) : X 214 52 [.ref 68, .int x1, .int x2, .int x3, .int x4, .int x5] [] (SH L, mi, ml, MR) (d + 1) Q =
    if (x5 < 9) then (Xm 182 [.ref 68, .int x4, .int x5] (SH L, mi, ml, MR) d (fun v μ' => X 214 67 [.ref 68, .int x1, .int x2, .int x3, .int x4, .int x5] (v.toList ++ []) μ' (d + 1) Q)) else (if ((mi 77 (6 + x4).toNatClampNeg) < x5) then (X 214 31 [.ref 68, .int x1, .int (x2 + (x5 - (mi 77 (6 + x4).toNatClampNeg))), .int (x3 + 1), .int (x4 + 1), .int x5] [] (SH L, mi, ml, MR) (d + 1) Q) else (X 214 31 [.ref 68, .int x1, .int (x2 + (x5 - (mi 77 (6 + x4).toNatClampNeg))), .int (x3 + 0), .int (x4 + 1), .int x5] [] (SH L, mi, ml, MR) (d + 1) Q)) := by
  refine (R_pure0 (ins := .iload 5) (len := 2) (loc' := [.ref 68, .int x1, .int x2, .int x3, .int x4, .int x5]) (st' := [.int x5]) (by decide +kernel) (fun _ => rfl)).trans ?_
  refine (R_bipush (n := 9) (v := 9) (by decide +kernel) (by decide +kernel)).trans ?_
  refine (R_icmp_ge (off := 32) (t := 88) (by decide +kernel) (by decide +kernel)).trans (ite_congr rfl (fun c0 => ?_) (fun c0 => ?_))
  · refine (R_pure0 (ins := .aload_n 0) (len := 1) (loc' := [.ref 68, .int x1, .int x2, .int x3, .int x4, .int x5]) (st' := [.ref 68]) (by decide +kernel) (fun _ => rfl)).trans ?_
    refine (R_pure0 (ins := .iload 4) (len := 2) (loc' := [.ref 68, .int x1, .int x2, .int x3, .int x4, .int x5]) (st' := [.int x4, .ref 68]) (by decide +kernel) (fun _ => rfl)).trans ?_
    refine (R_pure0 (ins := .iload 5) (len := 2) (loc' := [.ref 68, .int x1, .int x2, .int x3, .int x4, .int x5]) (st' := [.int x5, .int x4, .ref 68]) (by decide +kernel) (fun _ => rfl)).trans ?_
    refine (R_virt (i := 163) (f := 182) (kd := 0) (na := 2) (ml := 3) (ci := 10) (n := 33) (b := 68) (As := [.int x4, .int x5]) (rest := []) (by decide +kernel) (by decide +kernel) (by decide) (by decide +kernel) rfl (by decide +kernel) rfl rfl (by decide +kernel) (Nat.le_of_ble_eq_true rfl)).trans ?_
    rfl
  · refine (R_pure0 (ins := .iload_n 2) (len := 1) (loc' := [.ref 68, .int x1, .int x2, .int x3, .int x4, .int x5]) (st' := [.int x2]) (by decide +kernel) (fun _ => rfl)).trans ?_
    refine (R_pure0 (ins := .iload 5) (len := 2) (loc' := [.ref 68, .int x1, .int x2, .int x3, .int x4, .int x5]) (st' := [.int x5, .int x2]) (by decide +kernel) (fun _ => rfl)).trans ?_
    refine (R_pure0 (ins := .aload_n 0) (len := 1) (loc' := [.ref 68, .int x1, .int x2, .int x3, .int x4, .int x5]) (st' := [.ref 68, .int x5, .int x2]) (by decide +kernel) (fun _ => rfl)).trans ?_
    refine (R_gr (i := 34) (ci := 10) (k := 9) (n := 33) (b := 77) (by decide +kernel) (by decide +kernel) (by decide) rfl (SH_ref (by decide +kernel))).trans ?_
    refine (R_bipush (n := 6) (v := 6) (by decide +kernel) (by decide +kernel)).trans ?_
    refine (R_pure0 (ins := .iload 4) (len := 2) (loc' := [.ref 68, .int x1, .int x2, .int x3, .int x4, .int x5]) (st' := [.int x4, .int 6, .ref 77, .int x5, .int x2]) (by decide +kernel) (fun _ => rfl)).trans ?_
    refine (R_pure0 (ins := .iadd) (len := 1) (loc' := [.ref 68, .int x1, .int x2, .int x3, .int x4, .int x5]) (st' := [.int (6 + x4), .ref 77, .int x5, .int x2]) (by decide +kernel) (fun _ => rfl)).trans ?_
    refine (R_iaload (kd := 100) (n := 15) (by decide +kernel) rfl (by decide) (h1 c0)).trans ?_
    refine (R_pure0 (ins := .isub) (len := 1) (loc' := [.ref 68, .int x1, .int x2, .int x3, .int x4, .int x5]) (st' := [.int (x5 - (mi 77 (6 + x4).toNatClampNeg)), .int x2]) (by decide +kernel) (fun _ => rfl)).trans ?_
    refine (R_pure0 (ins := .iadd) (len := 1) (loc' := [.ref 68, .int x1, .int x2, .int x3, .int x4, .int x5]) (st' := [.int (x2 + (x5 - (mi 77 (6 + x4).toNatClampNeg)))]) (by decide +kernel) (fun _ => rfl)).trans ?_
    refine (R_pure0 (ins := .istore_n 2) (len := 1) (loc' := [.ref 68, .int x1, .int (x2 + (x5 - (mi 77 (6 + x4).toNatClampNeg))), .int x3, .int x4, .int x5]) (st' := []) (by decide +kernel) (fun _ => rfl)).trans ?_
    refine (R_pure0 (ins := .iload_n 3) (len := 1) (loc' := [.ref 68, .int x1, .int (x2 + (x5 - (mi 77 (6 + x4).toNatClampNeg))), .int x3, .int x4, .int x5]) (st' := [.int x3]) (by decide +kernel) (fun _ => rfl)).trans ?_
    refine (R_pure0 (ins := .iload 5) (len := 2) (loc' := [.ref 68, .int x1, .int (x2 + (x5 - (mi 77 (6 + x4).toNatClampNeg))), .int x3, .int x4, .int x5]) (st' := [.int x5, .int x3]) (by decide +kernel) (fun _ => rfl)).trans ?_
    refine (R_pure0 (ins := .aload_n 0) (len := 1) (loc' := [.ref 68, .int x1, .int (x2 + (x5 - (mi 77 (6 + x4).toNatClampNeg))), .int x3, .int x4, .int x5]) (st' := [.ref 68, .int x5, .int x3]) (by decide +kernel) (fun _ => rfl)).trans ?_
    refine (R_gr (i := 34) (ci := 10) (k := 9) (n := 33) (b := 77) (by decide +kernel) (by decide +kernel) (by decide) rfl (SH_ref (by decide +kernel))).trans ?_
    refine (R_bipush (n := 6) (v := 6) (by decide +kernel) (by decide +kernel)).trans ?_
    refine (R_pure0 (ins := .iload 4) (len := 2) (loc' := [.ref 68, .int x1, .int (x2 + (x5 - (mi 77 (6 + x4).toNatClampNeg))), .int x3, .int x4, .int x5]) (st' := [.int x4, .int 6, .ref 77, .int x5, .int x3]) (by decide +kernel) (fun _ => rfl)).trans ?_
    refine (R_pure0 (ins := .iadd) (len := 1) (loc' := [.ref 68, .int x1, .int (x2 + (x5 - (mi 77 (6 + x4).toNatClampNeg))), .int x3, .int x4, .int x5]) (st' := [.int (6 + x4), .ref 77, .int x5, .int x3]) (by decide +kernel) (fun _ => rfl)).trans ?_
    refine (R_iaload (kd := 100) (n := 15) (by decide +kernel) rfl (by decide) (h2 c0)).trans ?_
    refine (R_icmp_le (off := 7) (t := 124) (by decide +kernel) (by decide +kernel)).trans (ite_congr rfl (fun c1 => ?_) (fun c1 => ?_))
    · refine (R_iconst (n := 1) (v := 1) (by decide +kernel) (by decide +kernel)).trans ?_
      refine (R_goto (off := 4) (t := 125) (by decide +kernel) (by decide +kernel)).trans ?_
      refine (R_pure0 (ins := .iadd) (len := 1) (loc' := [.ref 68, .int x1, .int (x2 + (x5 - (mi 77 (6 + x4).toNatClampNeg))), .int x3, .int x4, .int x5]) (st' := [.int (x3 + 1)]) (by decide +kernel) (fun _ => rfl)).trans ?_
      refine (R_pure0 (ins := .istore_n 3) (len := 1) (loc' := [.ref 68, .int x1, .int (x2 + (x5 - (mi 77 (6 + x4).toNatClampNeg))), .int (x3 + 1), .int x4, .int x5]) (st' := []) (by decide +kernel) (fun _ => rfl)).trans ?_
      refine (R_iinc (k := 4) (n := 1) (x := x4) (v := (x4 + 1)) (loc' := [.ref 68, .int x1, .int (x2 + (x5 - (mi 77 (6 + x4).toNatClampNeg))), .int (x3 + 1), .int (x4 + 1), .int x5]) (by decide +kernel) rfl rfl rfl).trans ?_
      refine (R_goto (off := (-99)) (t := 31) (by decide +kernel) (by decide +kernel)).trans ?_
      rfl
    · refine (R_iconst (n := 0) (v := 0) (by decide +kernel) (by decide +kernel)).trans ?_
      refine (R_pure0 (ins := .iadd) (len := 1) (loc' := [.ref 68, .int x1, .int (x2 + (x5 - (mi 77 (6 + x4).toNatClampNeg))), .int x3, .int x4, .int x5]) (st' := [.int (x3 + 0)]) (by decide +kernel) (fun _ => rfl)).trans ?_
      refine (R_pure0 (ins := .istore_n 3) (len := 1) (loc' := [.ref 68, .int x1, .int (x2 + (x5 - (mi 77 (6 + x4).toNatClampNeg))), .int (x3 + 0), .int x4, .int x5]) (st' := []) (by decide +kernel) (fun _ => rfl)).trans ?_
      refine (R_iinc (k := 4) (n := 1) (x := x4) (v := (x4 + 1)) (loc' := [.ref 68, .int x1, .int (x2 + (x5 - (mi 77 (6 + x4).toNatClampNeg))), .int (x3 + 0), .int (x4 + 1), .int x5]) (by decide +kernel) rfl rfl rfl).trans ?_
      refine (R_goto (off := (-99)) (t := 31) (by decide +kernel) (by decide +kernel)).trans ?_
      rfl
theorem s214_139 {L : Nat} {mi : Nat → Nat → Int32} {ml : Nat → Nat → Int64} {d : Nat} {Q : Option Value → xM → Prop} {x1 x2 x3 x4 y : Int32} : X 214 139 [.ref 68, .int x1, .int x2, .int x3, .int x4, xmk] [.int y] (SH L, mi, ml, MR) d Q =
    Q (some (.int y)) (SH L, mi, ml, MR) := by
  exact R_ireturn (by decide +kernel) (by decide +kernel)
theorem s214_67 {L : Nat} {mi : Nat → Nat → Int32} {ml : Nat → Nat → Int64} {d : Nat} {Q : Option Value → xM → Prop} {x1 x2 x3 x4 x5 y : Int32} (h1 : (y = 0) → xin (6 + x4) 15 = true) (h2 : (y = 0) → xin (6 + x4) 15 = true) : X 214 67 [.ref 68, .int x1, .int x2, .int x3, .int x4, .int x5] [.int y] (SH L, mi, ml, MR) (d + 1) Q =
    if (y = 0) then (if ((mi 77 (6 + x4).toNatClampNeg) < x5) then (X 214 31 [.ref 68, .int x1, .int (x2 + (x5 - (mi 77 (6 + x4).toNatClampNeg))), .int (x3 + 1), .int (x4 + 1), .int x5] [] (SH L, mi, ml, MR) (d + 1) Q) else (X 214 31 [.ref 68, .int x1, .int (x2 + (x5 - (mi 77 (6 + x4).toNatClampNeg))), .int (x3 + 0), .int (x4 + 1), .int x5] [] (SH L, mi, ml, MR) (d + 1) Q)) else (Xm 180 [.ref 68, .int x4, .int x5] (SH L, mi, ml, MR) d (fun v μ' => X 214 78 [.ref 68, .int x1, .int x2, .int x3, .int x4, .int x5] (v.toList ++ []) μ' (d + 1) Q)) := by
  refine (R_if_eq (off := 21) (t := 88) (by decide +kernel) (by decide +kernel)).trans (ite_congr rfl (fun c0 => ?_) (fun c0 => ?_))
  · refine (R_pure0 (ins := .iload_n 2) (len := 1) (loc' := [.ref 68, .int x1, .int x2, .int x3, .int x4, .int x5]) (st' := [.int x2]) (by decide +kernel) (fun _ => rfl)).trans ?_
    refine (R_pure0 (ins := .iload 5) (len := 2) (loc' := [.ref 68, .int x1, .int x2, .int x3, .int x4, .int x5]) (st' := [.int x5, .int x2]) (by decide +kernel) (fun _ => rfl)).trans ?_
    refine (R_pure0 (ins := .aload_n 0) (len := 1) (loc' := [.ref 68, .int x1, .int x2, .int x3, .int x4, .int x5]) (st' := [.ref 68, .int x5, .int x2]) (by decide +kernel) (fun _ => rfl)).trans ?_
    refine (R_gr (i := 34) (ci := 10) (k := 9) (n := 33) (b := 77) (by decide +kernel) (by decide +kernel) (by decide) rfl (SH_ref (by decide +kernel))).trans ?_
    refine (R_bipush (n := 6) (v := 6) (by decide +kernel) (by decide +kernel)).trans ?_
    refine (R_pure0 (ins := .iload 4) (len := 2) (loc' := [.ref 68, .int x1, .int x2, .int x3, .int x4, .int x5]) (st' := [.int x4, .int 6, .ref 77, .int x5, .int x2]) (by decide +kernel) (fun _ => rfl)).trans ?_
    refine (R_pure0 (ins := .iadd) (len := 1) (loc' := [.ref 68, .int x1, .int x2, .int x3, .int x4, .int x5]) (st' := [.int (6 + x4), .ref 77, .int x5, .int x2]) (by decide +kernel) (fun _ => rfl)).trans ?_
    refine (R_iaload (kd := 100) (n := 15) (by decide +kernel) rfl (by decide) (h1 c0)).trans ?_
    refine (R_pure0 (ins := .isub) (len := 1) (loc' := [.ref 68, .int x1, .int x2, .int x3, .int x4, .int x5]) (st' := [.int (x5 - (mi 77 (6 + x4).toNatClampNeg)), .int x2]) (by decide +kernel) (fun _ => rfl)).trans ?_
    refine (R_pure0 (ins := .iadd) (len := 1) (loc' := [.ref 68, .int x1, .int x2, .int x3, .int x4, .int x5]) (st' := [.int (x2 + (x5 - (mi 77 (6 + x4).toNatClampNeg)))]) (by decide +kernel) (fun _ => rfl)).trans ?_
    refine (R_pure0 (ins := .istore_n 2) (len := 1) (loc' := [.ref 68, .int x1, .int (x2 + (x5 - (mi 77 (6 + x4).toNatClampNeg))), .int x3, .int x4, .int x5]) (st' := []) (by decide +kernel) (fun _ => rfl)).trans ?_
    refine (R_pure0 (ins := .iload_n 3) (len := 1) (loc' := [.ref 68, .int x1, .int (x2 + (x5 - (mi 77 (6 + x4).toNatClampNeg))), .int x3, .int x4, .int x5]) (st' := [.int x3]) (by decide +kernel) (fun _ => rfl)).trans ?_
    refine (R_pure0 (ins := .iload 5) (len := 2) (loc' := [.ref 68, .int x1, .int (x2 + (x5 - (mi 77 (6 + x4).toNatClampNeg))), .int x3, .int x4, .int x5]) (st' := [.int x5, .int x3]) (by decide +kernel) (fun _ => rfl)).trans ?_
    refine (R_pure0 (ins := .aload_n 0) (len := 1) (loc' := [.ref 68, .int x1, .int (x2 + (x5 - (mi 77 (6 + x4).toNatClampNeg))), .int x3, .int x4, .int x5]) (st' := [.ref 68, .int x5, .int x3]) (by decide +kernel) (fun _ => rfl)).trans ?_
    refine (R_gr (i := 34) (ci := 10) (k := 9) (n := 33) (b := 77) (by decide +kernel) (by decide +kernel) (by decide) rfl (SH_ref (by decide +kernel))).trans ?_
    refine (R_bipush (n := 6) (v := 6) (by decide +kernel) (by decide +kernel)).trans ?_
    refine (R_pure0 (ins := .iload 4) (len := 2) (loc' := [.ref 68, .int x1, .int (x2 + (x5 - (mi 77 (6 + x4).toNatClampNeg))), .int x3, .int x4, .int x5]) (st' := [.int x4, .int 6, .ref 77, .int x5, .int x3]) (by decide +kernel) (fun _ => rfl)).trans ?_
    refine (R_pure0 (ins := .iadd) (len := 1) (loc' := [.ref 68, .int x1, .int (x2 + (x5 - (mi 77 (6 + x4).toNatClampNeg))), .int x3, .int x4, .int x5]) (st' := [.int (6 + x4), .ref 77, .int x5, .int x3]) (by decide +kernel) (fun _ => rfl)).trans ?_
    refine (R_iaload (kd := 100) (n := 15) (by decide +kernel) rfl (by decide) (h2 c0)).trans ?_
    refine (R_icmp_le (off := 7) (t := 124) (by decide +kernel) (by decide +kernel)).trans (ite_congr rfl (fun c1 => ?_) (fun c1 => ?_))
    · refine (R_iconst (n := 1) (v := 1) (by decide +kernel) (by decide +kernel)).trans ?_
      refine (R_goto (off := 4) (t := 125) (by decide +kernel) (by decide +kernel)).trans ?_
      refine (R_pure0 (ins := .iadd) (len := 1) (loc' := [.ref 68, .int x1, .int (x2 + (x5 - (mi 77 (6 + x4).toNatClampNeg))), .int x3, .int x4, .int x5]) (st' := [.int (x3 + 1)]) (by decide +kernel) (fun _ => rfl)).trans ?_
      refine (R_pure0 (ins := .istore_n 3) (len := 1) (loc' := [.ref 68, .int x1, .int (x2 + (x5 - (mi 77 (6 + x4).toNatClampNeg))), .int (x3 + 1), .int x4, .int x5]) (st' := []) (by decide +kernel) (fun _ => rfl)).trans ?_
      refine (R_iinc (k := 4) (n := 1) (x := x4) (v := (x4 + 1)) (loc' := [.ref 68, .int x1, .int (x2 + (x5 - (mi 77 (6 + x4).toNatClampNeg))), .int (x3 + 1), .int (x4 + 1), .int x5]) (by decide +kernel) rfl rfl rfl).trans ?_
      refine (R_goto (off := (-99)) (t := 31) (by decide +kernel) (by decide +kernel)).trans ?_
      rfl
    · refine (R_iconst (n := 0) (v := 0) (by decide +kernel) (by decide +kernel)).trans ?_
      refine (R_pure0 (ins := .iadd) (len := 1) (loc' := [.ref 68, .int x1, .int (x2 + (x5 - (mi 77 (6 + x4).toNatClampNeg))), .int x3, .int x4, .int x5]) (st' := [.int (x3 + 0)]) (by decide +kernel) (fun _ => rfl)).trans ?_
      refine (R_pure0 (ins := .istore_n 3) (len := 1) (loc' := [.ref 68, .int x1, .int (x2 + (x5 - (mi 77 (6 + x4).toNatClampNeg))), .int (x3 + 0), .int x4, .int x5]) (st' := []) (by decide +kernel) (fun _ => rfl)).trans ?_
      refine (R_iinc (k := 4) (n := 1) (x := x4) (v := (x4 + 1)) (loc' := [.ref 68, .int x1, .int (x2 + (x5 - (mi 77 (6 + x4).toNatClampNeg))), .int (x3 + 0), .int (x4 + 1), .int x5]) (by decide +kernel) rfl rfl rfl).trans ?_
      refine (R_goto (off := (-99)) (t := 31) (by decide +kernel) (by decide +kernel)).trans ?_
      rfl
  · refine (R_pure0 (ins := .aload_n 0) (len := 1) (loc' := [.ref 68, .int x1, .int x2, .int x3, .int x4, .int x5]) (st' := [.ref 68]) (by decide +kernel) (fun _ => rfl)).trans ?_
    refine (R_pure0 (ins := .iload 4) (len := 2) (loc' := [.ref 68, .int x1, .int x2, .int x3, .int x4, .int x5]) (st' := [.int x4, .ref 68]) (by decide +kernel) (fun _ => rfl)).trans ?_
    refine (R_pure0 (ins := .iload 5) (len := 2) (loc' := [.ref 68, .int x1, .int x2, .int x3, .int x4, .int x5]) (st' := [.int x5, .int x4, .ref 68]) (by decide +kernel) (fun _ => rfl)).trans ?_
    refine (R_virt (i := 178) (f := 180) (kd := 0) (na := 2) (ml := 3) (ci := 10) (n := 33) (b := 68) (As := [.int x4, .int x5]) (rest := []) (by decide +kernel) (by decide +kernel) (by decide) (by decide +kernel) rfl (by decide +kernel) rfl rfl (by decide +kernel) (Nat.le_of_ble_eq_true rfl)).trans ?_
    rfl
theorem s214_31v2 {L : Nat} {mi : Nat → Nat → Int32} {ml : Nat → Nat → Int64} {d : Nat} {Q : Option Value → xM → Prop} {x1 x2 x3 x4 x5 : Int32} (h1 : (x4 < (mi 68 4)) → xin (6 + x4) 15 = true) : X 214 31 [.ref 68, .int x1, .int x2, .int x3, .int x4, .int x5] [] (SH L, mi, ml, MR) (d + 1) Q =
    if (x4 < (mi 68 4)) then (X 214 52 [.ref 68, .int x1, .int x2, .int x3, .int x4, .int (mi 77 (6 + x4).toNatClampNeg)] [] (SH L, mi, ml, MR) (d + 1) Q) else (Xm 154 [.ref 68, .int x2, .int x3] (SH L, mi, ml, MR) d (fun v μ' => X 214 139 [.ref 68, .int x1, .int x2, .int x3, .int x4, .int x5] (v.toList ++ []) μ' (d + 1) Q)) := by
  refine (R_pure0 (ins := .iload 4) (len := 2) (loc' := [.ref 68, .int x1, .int x2, .int x3, .int x4, .int x5]) (st' := [.int x4]) (by decide +kernel) (fun _ => rfl)).trans ?_
  refine (R_pure0 (ins := .aload_n 0) (len := 1) (loc' := [.ref 68, .int x1, .int x2, .int x3, .int x4, .int x5]) (st' := [.ref 68, .int x4]) (by decide +kernel) (fun _ => rfl)).trans ?_
  refine (R_gi (i := 131) (ci := 10) (k := 4) (n := 33) (by decide +kernel) (by decide +kernel) (by decide) rfl).trans ?_
  refine (R_icmp_ge (off := 96) (t := 133) (by decide +kernel) (by decide +kernel)).trans (ite_congr rfl (fun c0 => ?_) (fun c0 => ?_))
  · refine (R_pure0 (ins := .aload_n 0) (len := 1) (loc' := [.ref 68, .int x1, .int x2, .int x3, .int x4, .int x5]) (st' := [.ref 68]) (by decide +kernel) (fun _ => rfl)).trans ?_
    refine (R_gr (i := 34) (ci := 10) (k := 9) (n := 33) (b := 77) (by decide +kernel) (by decide +kernel) (by decide) rfl (SH_ref (by decide +kernel))).trans ?_
    refine (R_bipush (n := 6) (v := 6) (by decide +kernel) (by decide +kernel)).trans ?_
    refine (R_pure0 (ins := .iload 4) (len := 2) (loc' := [.ref 68, .int x1, .int x2, .int x3, .int x4, .int x5]) (st' := [.int x4, .int 6, .ref 77]) (by decide +kernel) (fun _ => rfl)).trans ?_
    refine (R_pure0 (ins := .iadd) (len := 1) (loc' := [.ref 68, .int x1, .int x2, .int x3, .int x4, .int x5]) (st' := [.int (6 + x4), .ref 77]) (by decide +kernel) (fun _ => rfl)).trans ?_
    refine (R_iaload (kd := 100) (n := 15) (by decide +kernel) rfl (by decide) (h1 c0)).trans ?_
    refine (R_pure0 (ins := .istore 5) (len := 2) (loc' := [.ref 68, .int x1, .int x2, .int x3, .int x4, .int (mi 77 (6 + x4).toNatClampNeg)]) (st' := []) (by decide +kernel) (fun _ => rfl)).trans ?_
    rfl
  · refine (R_pure0 (ins := .aload_n 0) (len := 1) (loc' := [.ref 68, .int x1, .int x2, .int x3, .int x4, .int x5]) (st' := [.ref 68]) (by decide +kernel) (fun _ => rfl)).trans ?_
    refine (R_pure0 (ins := .iload_n 2) (len := 1) (loc' := [.ref 68, .int x1, .int x2, .int x3, .int x4, .int x5]) (st' := [.int x2, .ref 68]) (by decide +kernel) (fun _ => rfl)).trans ?_
    refine (R_pure0 (ins := .iload_n 3) (len := 1) (loc' := [.ref 68, .int x1, .int x2, .int x3, .int x4, .int x5]) (st' := [.int x3, .int x2, .ref 68]) (by decide +kernel) (fun _ => rfl)).trans ?_
    refine (R_virt (i := 215) (f := 154) (kd := 0) (na := 2) (ml := 3) (ci := 10) (n := 33) (b := 68) (As := [.int x2, .int x3]) (rest := []) (by decide +kernel) (by decide +kernel) (by decide) (by decide +kernel) rfl (by decide +kernel) rfl rfl (by decide +kernel) (Nat.le_of_ble_eq_true rfl)).trans ?_
    rfl
theorem s214_78 {L : Nat} {mi : Nat → Nat → Int32} {ml : Nat → Nat → Int64} {d : Nat} {Q : Option Value → xM → Prop} {x1 x2 x3 x4 x5 y : Int32} (h1 : ¬ (y = x1) → xin (6 + x4) 15 = true) (h2 : ¬ (y = x1) → xin (6 + x4) 15 = true) : X 214 78 [.ref 68, .int x1, .int x2, .int x3, .int x4, .int x5] [.int y] (SH L, mi, ml, MR) d Q =
    if (y = x1) then (X 214 52 [.ref 68, .int x1, .int x2, .int x3, .int x4, .int (x5 + 1)] [] (SH L, mi, ml, MR) d Q) else (if ((mi 77 (6 + x4).toNatClampNeg) < x5) then (X 214 31 [.ref 68, .int x1, .int (x2 + (x5 - (mi 77 (6 + x4).toNatClampNeg))), .int (x3 + 1), .int (x4 + 1), .int x5] [] (SH L, mi, ml, MR) d Q) else (X 214 31 [.ref 68, .int x1, .int (x2 + (x5 - (mi 77 (6 + x4).toNatClampNeg))), .int (x3 + 0), .int (x4 + 1), .int x5] [] (SH L, mi, ml, MR) d Q)) := by
  refine (R_pure0 (ins := .iload_n 1) (len := 1) (loc' := [.ref 68, .int x1, .int x2, .int x3, .int x4, .int x5]) (st' := [.int x1, .int y]) (by decide +kernel) (fun _ => rfl)).trans ?_
  refine (R_icmp_ne (off := 9) (t := 88) (by decide +kernel) (by decide +kernel)).trans (ite_congr rfl (fun c0 => ?_) (fun c0 => ?_))
  · refine (R_iinc (k := 5) (n := 1) (x := x5) (v := (x5 + 1)) (loc' := [.ref 68, .int x1, .int x2, .int x3, .int x4, .int (x5 + 1)]) (by decide +kernel) rfl rfl rfl).trans ?_
    refine (R_goto (off := (-33)) (t := 52) (by decide +kernel) (by decide +kernel)).trans ?_
    rfl
  · refine (R_pure0 (ins := .iload_n 2) (len := 1) (loc' := [.ref 68, .int x1, .int x2, .int x3, .int x4, .int x5]) (st' := [.int x2]) (by decide +kernel) (fun _ => rfl)).trans ?_
    refine (R_pure0 (ins := .iload 5) (len := 2) (loc' := [.ref 68, .int x1, .int x2, .int x3, .int x4, .int x5]) (st' := [.int x5, .int x2]) (by decide +kernel) (fun _ => rfl)).trans ?_
    refine (R_pure0 (ins := .aload_n 0) (len := 1) (loc' := [.ref 68, .int x1, .int x2, .int x3, .int x4, .int x5]) (st' := [.ref 68, .int x5, .int x2]) (by decide +kernel) (fun _ => rfl)).trans ?_
    refine (R_gr (i := 34) (ci := 10) (k := 9) (n := 33) (b := 77) (by decide +kernel) (by decide +kernel) (by decide) rfl (SH_ref (by decide +kernel))).trans ?_
    refine (R_bipush (n := 6) (v := 6) (by decide +kernel) (by decide +kernel)).trans ?_
    refine (R_pure0 (ins := .iload 4) (len := 2) (loc' := [.ref 68, .int x1, .int x2, .int x3, .int x4, .int x5]) (st' := [.int x4, .int 6, .ref 77, .int x5, .int x2]) (by decide +kernel) (fun _ => rfl)).trans ?_
    refine (R_pure0 (ins := .iadd) (len := 1) (loc' := [.ref 68, .int x1, .int x2, .int x3, .int x4, .int x5]) (st' := [.int (6 + x4), .ref 77, .int x5, .int x2]) (by decide +kernel) (fun _ => rfl)).trans ?_
    refine (R_iaload (kd := 100) (n := 15) (by decide +kernel) rfl (by decide) (h1 c0)).trans ?_
    refine (R_pure0 (ins := .isub) (len := 1) (loc' := [.ref 68, .int x1, .int x2, .int x3, .int x4, .int x5]) (st' := [.int (x5 - (mi 77 (6 + x4).toNatClampNeg)), .int x2]) (by decide +kernel) (fun _ => rfl)).trans ?_
    refine (R_pure0 (ins := .iadd) (len := 1) (loc' := [.ref 68, .int x1, .int x2, .int x3, .int x4, .int x5]) (st' := [.int (x2 + (x5 - (mi 77 (6 + x4).toNatClampNeg)))]) (by decide +kernel) (fun _ => rfl)).trans ?_
    refine (R_pure0 (ins := .istore_n 2) (len := 1) (loc' := [.ref 68, .int x1, .int (x2 + (x5 - (mi 77 (6 + x4).toNatClampNeg))), .int x3, .int x4, .int x5]) (st' := []) (by decide +kernel) (fun _ => rfl)).trans ?_
    refine (R_pure0 (ins := .iload_n 3) (len := 1) (loc' := [.ref 68, .int x1, .int (x2 + (x5 - (mi 77 (6 + x4).toNatClampNeg))), .int x3, .int x4, .int x5]) (st' := [.int x3]) (by decide +kernel) (fun _ => rfl)).trans ?_
    refine (R_pure0 (ins := .iload 5) (len := 2) (loc' := [.ref 68, .int x1, .int (x2 + (x5 - (mi 77 (6 + x4).toNatClampNeg))), .int x3, .int x4, .int x5]) (st' := [.int x5, .int x3]) (by decide +kernel) (fun _ => rfl)).trans ?_
    refine (R_pure0 (ins := .aload_n 0) (len := 1) (loc' := [.ref 68, .int x1, .int (x2 + (x5 - (mi 77 (6 + x4).toNatClampNeg))), .int x3, .int x4, .int x5]) (st' := [.ref 68, .int x5, .int x3]) (by decide +kernel) (fun _ => rfl)).trans ?_
    refine (R_gr (i := 34) (ci := 10) (k := 9) (n := 33) (b := 77) (by decide +kernel) (by decide +kernel) (by decide) rfl (SH_ref (by decide +kernel))).trans ?_
    refine (R_bipush (n := 6) (v := 6) (by decide +kernel) (by decide +kernel)).trans ?_
    refine (R_pure0 (ins := .iload 4) (len := 2) (loc' := [.ref 68, .int x1, .int (x2 + (x5 - (mi 77 (6 + x4).toNatClampNeg))), .int x3, .int x4, .int x5]) (st' := [.int x4, .int 6, .ref 77, .int x5, .int x3]) (by decide +kernel) (fun _ => rfl)).trans ?_
    refine (R_pure0 (ins := .iadd) (len := 1) (loc' := [.ref 68, .int x1, .int (x2 + (x5 - (mi 77 (6 + x4).toNatClampNeg))), .int x3, .int x4, .int x5]) (st' := [.int (6 + x4), .ref 77, .int x5, .int x3]) (by decide +kernel) (fun _ => rfl)).trans ?_
    refine (R_iaload (kd := 100) (n := 15) (by decide +kernel) rfl (by decide) (h2 c0)).trans ?_
    refine (R_icmp_le (off := 7) (t := 124) (by decide +kernel) (by decide +kernel)).trans (ite_congr rfl (fun c1 => ?_) (fun c1 => ?_))
    · refine (R_iconst (n := 1) (v := 1) (by decide +kernel) (by decide +kernel)).trans ?_
      refine (R_goto (off := 4) (t := 125) (by decide +kernel) (by decide +kernel)).trans ?_
      refine (R_pure0 (ins := .iadd) (len := 1) (loc' := [.ref 68, .int x1, .int (x2 + (x5 - (mi 77 (6 + x4).toNatClampNeg))), .int x3, .int x4, .int x5]) (st' := [.int (x3 + 1)]) (by decide +kernel) (fun _ => rfl)).trans ?_
      refine (R_pure0 (ins := .istore_n 3) (len := 1) (loc' := [.ref 68, .int x1, .int (x2 + (x5 - (mi 77 (6 + x4).toNatClampNeg))), .int (x3 + 1), .int x4, .int x5]) (st' := []) (by decide +kernel) (fun _ => rfl)).trans ?_
      refine (R_iinc (k := 4) (n := 1) (x := x4) (v := (x4 + 1)) (loc' := [.ref 68, .int x1, .int (x2 + (x5 - (mi 77 (6 + x4).toNatClampNeg))), .int (x3 + 1), .int (x4 + 1), .int x5]) (by decide +kernel) rfl rfl rfl).trans ?_
      refine (R_goto (off := (-99)) (t := 31) (by decide +kernel) (by decide +kernel)).trans ?_
      rfl
    · refine (R_iconst (n := 0) (v := 0) (by decide +kernel) (by decide +kernel)).trans ?_
      refine (R_pure0 (ins := .iadd) (len := 1) (loc' := [.ref 68, .int x1, .int (x2 + (x5 - (mi 77 (6 + x4).toNatClampNeg))), .int x3, .int x4, .int x5]) (st' := [.int (x3 + 0)]) (by decide +kernel) (fun _ => rfl)).trans ?_
      refine (R_pure0 (ins := .istore_n 3) (len := 1) (loc' := [.ref 68, .int x1, .int (x2 + (x5 - (mi 77 (6 + x4).toNatClampNeg))), .int (x3 + 0), .int x4, .int x5]) (st' := []) (by decide +kernel) (fun _ => rfl)).trans ?_
      refine (R_iinc (k := 4) (n := 1) (x := x4) (v := (x4 + 1)) (loc' := [.ref 68, .int x1, .int (x2 + (x5 - (mi 77 (6 + x4).toNatClampNeg))), .int (x3 + 0), .int (x4 + 1), .int x5]) (by decide +kernel) rfl rfl rfl).trans ?_
      refine (R_goto (off := (-99)) (t := 31) (by decide +kernel) (by decide +kernel)).trans ?_
      rfl
theorem s214_139v2 {L : Nat} {mi : Nat → Nat → Int32} {ml : Nat → Nat → Int64} {d : Nat} {Q : Option Value → xM → Prop} {x1 x2 x3 x4 x5 y : Int32} : X 214 139 [.ref 68, .int x1, .int x2, .int x3, .int x4, .int x5] [.int y] (SH L, mi, ml, MR) d Q =
    Q (some (.int y)) (SH L, mi, ml, MR) := by
  exact R_ireturn (by decide +kernel) (by decide +kernel)
theorem s215 {L : Nat} {mi : Nat → Nat → Int32} {ml : Nat → Nat → Int64} {d : Nat} {Q : Option Value → xM → Prop} {x1 : Int32} (h1 : xin x1 6 = true) (h2 : ¬ ((mi 69 x1.toNatClampNeg) < 0) → xin x1 6 = true) : Xm 215 [.ref 68, .int x1] (SH L, mi, ml, MR) d Q =
    if ((mi 69 x1.toNatClampNeg) < 0) then (Q (some (.int 1)) (SH L, mi, ml, MR)) else (if (((mi 69 x1.toNatClampNeg) - (mi 69 x1.toNatClampNeg) / 2 * 2) = 1) then (Q (some (.int 5)) (SH L, mi, ml, MR)) else (X 215 29 [.ref 68, .int x1, .int 1, .int 0] [] (SH L, mi, ml, MR) d Q)) := by
  rw [Xm_ent (n := 4) (loc := [.ref 68, .int x1, xmk, xmk]) (by decide +kernel) rfl]
  refine (R_pure0 (ins := .aload_n 0) (len := 1) (loc' := [.ref 68, .int x1, xmk, xmk]) (st' := [.ref 68]) (by decide +kernel) (fun _ => rfl)).trans ?_
  refine (R_gr (i := 7) (ci := 10) (k := 0) (n := 33) (b := 69) (by decide +kernel) (by decide +kernel) (by decide) rfl (SH_ref (by decide +kernel))).trans ?_
  refine (R_pure0 (ins := .iload_n 1) (len := 1) (loc' := [.ref 68, .int x1, xmk, xmk]) (st' := [.int x1, .ref 69]) (by decide +kernel) (fun _ => rfl)).trans ?_
  refine (R_iaload (kd := 100) (n := 6) (by decide +kernel) rfl (by decide) (h1)).trans ?_
  refine (R_if_ge (off := 5) (t := 11) (by decide +kernel) (by decide +kernel)).trans (ite_congr rfl (fun c0 => ?_) (fun c0 => ?_))
  · refine (R_iconst (n := 1) (v := 1) (by decide +kernel) (by decide +kernel)).trans ?_
    exact R_ireturn (by decide +kernel) (by decide +kernel)
  · refine (R_pure0 (ins := .aload_n 0) (len := 1) (loc' := [.ref 68, .int x1, xmk, xmk]) (st' := [.ref 68]) (by decide +kernel) (fun _ => rfl)).trans ?_
    refine (R_gr (i := 7) (ci := 10) (k := 0) (n := 33) (b := 69) (by decide +kernel) (by decide +kernel) (by decide) rfl (SH_ref (by decide +kernel))).trans ?_
    refine (R_pure0 (ins := .iload_n 1) (len := 1) (loc' := [.ref 68, .int x1, xmk, xmk]) (st' := [.int x1, .ref 69]) (by decide +kernel) (fun _ => rfl)).trans ?_
    refine (R_iaload (kd := 100) (n := 6) (by decide +kernel) rfl (by decide) (h2 c0)).trans ?_
    refine (R_iconst (n := 2) (v := 2) (by decide +kernel) (by decide +kernel)).trans ?_
    refine (R_irem (x := (mi 69 x1.toNatClampNeg)) (y := 2) (by decide +kernel) (by decide)).trans ?_
    refine (R_iconst (n := 1) (v := 1) (by decide +kernel) (by decide +kernel)).trans ?_
    refine (R_icmp_ne (off := 5) (t := 25) (by decide +kernel) (by decide +kernel)).trans (ite_congr rfl (fun c1 => ?_) (fun c1 => ?_))
    · refine (R_iconst (n := 5) (v := 5) (by decide +kernel) (by decide +kernel)).trans ?_
      exact R_ireturn (by decide +kernel) (by decide +kernel)
    · refine (R_iconst (n := 1) (v := 1) (by decide +kernel) (by decide +kernel)).trans ?_
      refine (R_pure0 (ins := .istore_n 2) (len := 1) (loc' := [.ref 68, .int x1, .int 1, xmk]) (st' := []) (by decide +kernel) (fun _ => rfl)).trans ?_
      refine (R_iconst (n := 0) (v := 0) (by decide +kernel) (by decide +kernel)).trans ?_
      refine (R_pure0 (ins := .istore_n 3) (len := 1) (loc' := [.ref 68, .int x1, .int 1, .int 0]) (st' := []) (by decide +kernel) (fun _ => rfl)).trans ?_
      rfl
theorem s215_29 {L : Nat} {mi : Nat → Nat → Int32} {ml : Nat → Nat → Int64} {d : Nat} {Q : Option Value → xM → Prop} {x1 x2 x3 : Int32} (h1 : xin x1 6 = true) (h2 : (x3 < (mi 69 x1.toNatClampNeg)) → ¬ (x2 = 0) → xin ((40 * x1) + x3) 240 = true) : X 215 29 [.ref 68, .int x1, .int x2, .int x3] [] (SH L, mi, ml, MR) (d + 1) Q =
    if (x3 < (mi 69 x1.toNatClampNeg)) then (if (x2 = 0) then (X 215 29 [.ref 68, .int x1, .int 0, .int (x3 + 2)] [] (SH L, mi, ml, MR) (d + 1) Q) else (Xm 173 [.int (mi 70 ((40 * x1) + x3).toNatClampNeg)] (SH L, mi, ml, MR) d (fun v μ' => X 215 57 [.ref 68, .int x1, .int x2, .int x3] (v.toList ++ []) μ' (d + 1) Q))) else (if (x2 = 0) then (Q (some (.int 3)) (SH L, mi, ml, MR)) else (Q (some (.int 0)) (SH L, mi, ml, MR))) := by
  refine (R_pure0 (ins := .iload_n 3) (len := 1) (loc' := [.ref 68, .int x1, .int x2, .int x3]) (st' := [.int x3]) (by decide +kernel) (fun _ => rfl)).trans ?_
  refine (R_pure0 (ins := .aload_n 0) (len := 1) (loc' := [.ref 68, .int x1, .int x2, .int x3]) (st' := [.ref 68, .int x3]) (by decide +kernel) (fun _ => rfl)).trans ?_
  refine (R_gr (i := 7) (ci := 10) (k := 0) (n := 33) (b := 69) (by decide +kernel) (by decide +kernel) (by decide) rfl (SH_ref (by decide +kernel))).trans ?_
  refine (R_pure0 (ins := .iload_n 1) (len := 1) (loc' := [.ref 68, .int x1, .int x2, .int x3]) (st' := [.int x1, .ref 69, .int x3]) (by decide +kernel) (fun _ => rfl)).trans ?_
  refine (R_iaload (kd := 100) (n := 6) (by decide +kernel) rfl (by decide) (h1)).trans ?_
  refine (R_icmp_ge (off := 60) (t := 96) (by decide +kernel) (by decide +kernel)).trans (ite_congr rfl (fun c0 => ?_) (fun c0 => ?_))
  · refine (R_pure0 (ins := .iload_n 2) (len := 1) (loc' := [.ref 68, .int x1, .int x2, .int x3]) (st' := [.int x2]) (by decide +kernel) (fun _ => rfl)).trans ?_
    refine (R_if_eq (off := 48) (t := 88) (by decide +kernel) (by decide +kernel)).trans (ite_congr rfl (fun c1 => ?_) (fun c1 => ?_))
    · refine (R_iconst (n := 0) (v := 0) (by decide +kernel) (by decide +kernel)).trans ?_
      refine (R_pure0 (ins := .istore_n 2) (len := 1) (loc' := [.ref 68, .int x1, .int 0, .int x3]) (st' := []) (by decide +kernel) (fun _ => rfl)).trans ?_
      refine (R_iinc (k := 3) (n := 2) (x := x3) (v := (x3 + 2)) (loc' := [.ref 68, .int x1, .int 0, .int (x3 + 2)]) (by decide +kernel) rfl rfl rfl).trans ?_
      refine (R_goto (off := (-64)) (t := 29) (by decide +kernel) (by decide +kernel)).trans ?_
      rfl
    · refine (R_pure0 (ins := .aload_n 0) (len := 1) (loc' := [.ref 68, .int x1, .int x2, .int x3]) (st' := [.ref 68]) (by decide +kernel) (fun _ => rfl)).trans ?_
      refine (R_gr (i := 13) (ci := 10) (k := 1) (n := 33) (b := 70) (by decide +kernel) (by decide +kernel) (by decide) rfl (SH_ref (by decide +kernel))).trans ?_
      refine (R_bipush (n := 40) (v := 40) (by decide +kernel) (by decide +kernel)).trans ?_
      refine (R_pure0 (ins := .iload_n 1) (len := 1) (loc' := [.ref 68, .int x1, .int x2, .int x3]) (st' := [.int x1, .int 40, .ref 70]) (by decide +kernel) (fun _ => rfl)).trans ?_
      refine (R_pure0 (ins := .imul) (len := 1) (loc' := [.ref 68, .int x1, .int x2, .int x3]) (st' := [.int (40 * x1), .ref 70]) (by decide +kernel) (fun _ => rfl)).trans ?_
      refine (R_pure0 (ins := .iload_n 3) (len := 1) (loc' := [.ref 68, .int x1, .int x2, .int x3]) (st' := [.int x3, .int (40 * x1), .ref 70]) (by decide +kernel) (fun _ => rfl)).trans ?_
      refine (R_pure0 (ins := .iadd) (len := 1) (loc' := [.ref 68, .int x1, .int x2, .int x3]) (st' := [.int ((40 * x1) + x3), .ref 70]) (by decide +kernel) (fun _ => rfl)).trans ?_
      refine (R_iaload (kd := 100) (n := 240) (by decide +kernel) rfl (by decide) (h2 c0 c1)).trans ?_
      refine (R_static (i := 181) (f := 173) (kd := 2) (na := 1) (ml := 1) (As := [.int (mi 70 ((40 * x1) + x3).toNatClampNeg)]) (rest := []) (by decide +kernel) (by decide +kernel) (by decide) (by decide +kernel) rfl rfl (by decide +kernel) (Nat.le_of_ble_eq_true rfl)).trans ?_
      rfl
  · refine (R_pure0 (ins := .iload_n 2) (len := 1) (loc' := [.ref 68, .int x1, .int x2, .int x3]) (st' := [.int x2]) (by decide +kernel) (fun _ => rfl)).trans ?_
    refine (R_if_eq (off := 7) (t := 104) (by decide +kernel) (by decide +kernel)).trans (ite_congr rfl (fun c2 => ?_) (fun c2 => ?_))
    · refine (R_iconst (n := 3) (v := 3) (by decide +kernel) (by decide +kernel)).trans ?_
      exact R_ireturn (by decide +kernel) (by decide +kernel)
    · refine (R_iconst (n := 0) (v := 0) (by decide +kernel) (by decide +kernel)).trans ?_
      refine (R_goto (off := 4) (t := 105) (by decide +kernel) (by decide +kernel)).trans ?_
      exact R_ireturn (by decide +kernel) (by decide +kernel)
theorem s215_57 {L : Nat} {mi : Nat → Nat → Int32} {ml : Nat → Nat → Int64} {d : Nat} {Q : Option Value → xM → Prop} {x1 x2 x3 y : Int32} (h1 : ¬ (y = 0) → xin (((40 * x1) + x3) + 1) 240 = true) : X 215 57 [.ref 68, .int x1, .int x2, .int x3] [.int y] (SH L, mi, ml, MR) (d + 1) Q =
    if (y = 0) then (X 215 29 [.ref 68, .int x1, .int 0, .int (x3 + 2)] [] (SH L, mi, ml, MR) (d + 1) Q) else (Xm 149 [.long (mi 70 (((40 * x1) + x3) + 1).toNatClampNeg).toInt64, .long 0, .long 9] (SH L, mi, ml, MR) d (fun v μ' => X 215 81 [.ref 68, .int x1, .int x2, .int x3] (v.toList ++ []) μ' (d + 1) Q)) := by
  refine (R_if_eq (off := 31) (t := 88) (by decide +kernel) (by decide +kernel)).trans (ite_congr rfl (fun c0 => ?_) (fun c0 => ?_))
  · refine (R_iconst (n := 0) (v := 0) (by decide +kernel) (by decide +kernel)).trans ?_
    refine (R_pure0 (ins := .istore_n 2) (len := 1) (loc' := [.ref 68, .int x1, .int 0, .int x3]) (st' := []) (by decide +kernel) (fun _ => rfl)).trans ?_
    refine (R_iinc (k := 3) (n := 2) (x := x3) (v := (x3 + 2)) (loc' := [.ref 68, .int x1, .int 0, .int (x3 + 2)]) (by decide +kernel) rfl rfl rfl).trans ?_
    refine (R_goto (off := (-64)) (t := 29) (by decide +kernel) (by decide +kernel)).trans ?_
    rfl
  · refine (R_pure0 (ins := .aload_n 0) (len := 1) (loc' := [.ref 68, .int x1, .int x2, .int x3]) (st' := [.ref 68]) (by decide +kernel) (fun _ => rfl)).trans ?_
    refine (R_gr (i := 13) (ci := 10) (k := 1) (n := 33) (b := 70) (by decide +kernel) (by decide +kernel) (by decide) rfl (SH_ref (by decide +kernel))).trans ?_
    refine (R_bipush (n := 40) (v := 40) (by decide +kernel) (by decide +kernel)).trans ?_
    refine (R_pure0 (ins := .iload_n 1) (len := 1) (loc' := [.ref 68, .int x1, .int x2, .int x3]) (st' := [.int x1, .int 40, .ref 70]) (by decide +kernel) (fun _ => rfl)).trans ?_
    refine (R_pure0 (ins := .imul) (len := 1) (loc' := [.ref 68, .int x1, .int x2, .int x3]) (st' := [.int (40 * x1), .ref 70]) (by decide +kernel) (fun _ => rfl)).trans ?_
    refine (R_pure0 (ins := .iload_n 3) (len := 1) (loc' := [.ref 68, .int x1, .int x2, .int x3]) (st' := [.int x3, .int (40 * x1), .ref 70]) (by decide +kernel) (fun _ => rfl)).trans ?_
    refine (R_pure0 (ins := .iadd) (len := 1) (loc' := [.ref 68, .int x1, .int x2, .int x3]) (st' := [.int ((40 * x1) + x3), .ref 70]) (by decide +kernel) (fun _ => rfl)).trans ?_
    refine (R_iconst (n := 1) (v := 1) (by decide +kernel) (by decide +kernel)).trans ?_
    refine (R_pure0 (ins := .iadd) (len := 1) (loc' := [.ref 68, .int x1, .int x2, .int x3]) (st' := [.int (((40 * x1) + x3) + 1), .ref 70]) (by decide +kernel) (fun _ => rfl)).trans ?_
    refine (R_iaload (kd := 100) (n := 240) (by decide +kernel) rfl (by decide) (h1 c0)).trans ?_
    refine (R_pure0 (ins := .i2l) (len := 1) (loc' := [.ref 68, .int x1, .int x2, .int x3]) (st' := [.long (mi 70 (((40 * x1) + x3) + 1).toNatClampNeg).toInt64]) (by decide +kernel) (fun _ => rfl)).trans ?_
    refine (R_lconst (n := 0) (v := 0) (by decide +kernel) (by decide +kernel)).trans ?_
    refine (R_ldc2 (i := 119) (v := 9) (by decide +kernel) (by decide +kernel)).trans ?_
    refine (R_static (i := 87) (f := 149) (kd := 2) (na := 3) (ml := 6) (As := [.long (mi 70 (((40 * x1) + x3) + 1).toNatClampNeg).toInt64, .long 0, .long 9]) (rest := []) (by decide +kernel) (by decide +kernel) (by decide) (by decide +kernel) rfl rfl (by decide +kernel) (Nat.le_of_ble_eq_true rfl)).trans ?_
    rfl
theorem s215_81 {L : Nat} {mi : Nat → Nat → Int32} {ml : Nat → Nat → Int64} {d : Nat} {Q : Option Value → xM → Prop} {x1 x2 x3 y : Int32} : X 215 81 [.ref 68, .int x1, .int x2, .int x3] [.int y] (SH L, mi, ml, MR) d Q =
    if (y = 0) then (X 215 29 [.ref 68, .int x1, .int 0, .int (x3 + 2)] [] (SH L, mi, ml, MR) d Q) else (X 215 29 [.ref 68, .int x1, .int 1, .int (x3 + 2)] [] (SH L, mi, ml, MR) d Q) := by
  refine (R_if_eq (off := 7) (t := 88) (by decide +kernel) (by decide +kernel)).trans (ite_congr rfl (fun c0 => ?_) (fun c0 => ?_))
  · refine (R_iconst (n := 0) (v := 0) (by decide +kernel) (by decide +kernel)).trans ?_
    refine (R_pure0 (ins := .istore_n 2) (len := 1) (loc' := [.ref 68, .int x1, .int 0, .int x3]) (st' := []) (by decide +kernel) (fun _ => rfl)).trans ?_
    refine (R_iinc (k := 3) (n := 2) (x := x3) (v := (x3 + 2)) (loc' := [.ref 68, .int x1, .int 0, .int (x3 + 2)]) (by decide +kernel) rfl rfl rfl).trans ?_
    refine (R_goto (off := (-64)) (t := 29) (by decide +kernel) (by decide +kernel)).trans ?_
    rfl
  · refine (R_iconst (n := 1) (v := 1) (by decide +kernel) (by decide +kernel)).trans ?_
    refine (R_goto (off := 4) (t := 89) (by decide +kernel) (by decide +kernel)).trans ?_
    refine (R_pure0 (ins := .istore_n 2) (len := 1) (loc' := [.ref 68, .int x1, .int 1, .int x3]) (st' := []) (by decide +kernel) (fun _ => rfl)).trans ?_
    refine (R_iinc (k := 3) (n := 2) (x := x3) (v := (x3 + 2)) (loc' := [.ref 68, .int x1, .int 1, .int (x3 + 2)]) (by decide +kernel) rfl rfl rfl).trans ?_
    refine (R_goto (off := (-64)) (t := 29) (by decide +kernel) (by decide +kernel)).trans ?_
    rfl
theorem s216 {L : Nat} {mi : Nat → Nat → Int32} {ml : Nat → Nat → Int64} {d : Nat} {Q : Option Value → xM → Prop} {x1 x2 x3 : Int32} : Xm 216 [.ref 68, .int x1, .int x2, .int x3] (SH L, mi, ml, MR) d Q =
    X 216 6 [.ref 68, .int x1, .int x2, .int x3, .int 1, .int 0] [] (SH L, mi, ml, MR) d Q := by
  rw [Xm_ent (n := 6) (loc := [.ref 68, .int x1, .int x2, .int x3, xmk, xmk]) (by decide +kernel) rfl]
  refine (R_iconst (n := 1) (v := 1) (by decide +kernel) (by decide +kernel)).trans ?_
  refine (R_pure0 (ins := .istore 4) (len := 2) (loc' := [.ref 68, .int x1, .int x2, .int x3, .int 1, xmk]) (st' := []) (by decide +kernel) (fun _ => rfl)).trans ?_
  refine (R_iconst (n := 0) (v := 0) (by decide +kernel) (by decide +kernel)).trans ?_
  refine (R_pure0 (ins := .istore 5) (len := 2) (loc' := [.ref 68, .int x1, .int x2, .int x3, .int 1, .int 0]) (st' := []) (by decide +kernel) (fun _ => rfl)).trans ?_
  rfl
theorem s216_6 {L : Nat} {mi : Nat → Nat → Int32} {ml : Nat → Nat → Int64} {d : Nat} {Q : Option Value → xM → Prop} {x1 x2 x3 x4 x5 : Int32} (h1 : xin x3 6 = true) (h2 : (x5 < (mi 69 x3.toNatClampNeg)) → ¬ (x4 = 0) → xin ((40 * x3) + x5) 240 = true) (h3 : ¬ (x5 < (mi 69 x3.toNatClampNeg)) → (x4 = 0 ∨ x4 = 1)) : X 216 6 [.ref 68, .int x1, .int x2, .int x3, .int x4, .int x5] [] (SH L, mi, ml, MR) (d + 1) Q =
    if (x5 < (mi 69 x3.toNatClampNeg)) then (if (x4 = 0) then (X 216 6 [.ref 68, .int x1, .int x2, .int x3, .int 0, .int (x5 + 2)] [] (SH L, mi, ml, MR) (d + 1) Q) else (Xm 179 [.int x1, .int x2, .int (mi 70 ((40 * x3) + x5).toNatClampNeg)] (SH L, mi, ml, MR) d (fun v μ' => X 216 39 [.ref 68, .int x1, .int x2, .int x3, .int x4, .int x5] (v.toList ++ []) μ' (d + 1) Q))) else (Q (some (.int x4)) (SH L, mi, ml, MR)) := by
  refine (R_pure0 (ins := .iload 5) (len := 2) (loc' := [.ref 68, .int x1, .int x2, .int x3, .int x4, .int x5]) (st' := [.int x5]) (by decide +kernel) (fun _ => rfl)).trans ?_
  refine (R_pure0 (ins := .aload_n 0) (len := 1) (loc' := [.ref 68, .int x1, .int x2, .int x3, .int x4, .int x5]) (st' := [.ref 68, .int x5]) (by decide +kernel) (fun _ => rfl)).trans ?_
  refine (R_gr (i := 7) (ci := 10) (k := 0) (n := 33) (b := 69) (by decide +kernel) (by decide +kernel) (by decide) rfl (SH_ref (by decide +kernel))).trans ?_
  refine (R_pure0 (ins := .iload_n 3) (len := 1) (loc' := [.ref 68, .int x1, .int x2, .int x3, .int x4, .int x5]) (st' := [.int x3, .ref 69, .int x5]) (by decide +kernel) (fun _ => rfl)).trans ?_
  refine (R_iaload (kd := 100) (n := 6) (by decide +kernel) rfl (by decide) (h1)).trans ?_
  refine (R_icmp_ge (off := 55) (t := 69) (by decide +kernel) (by decide +kernel)).trans (ite_congr rfl (fun c0 => ?_) (fun c0 => ?_))
  · refine (R_pure0 (ins := .iload 4) (len := 2) (loc' := [.ref 68, .int x1, .int x2, .int x3, .int x4, .int x5]) (st' := [.int x4]) (by decide +kernel) (fun _ => rfl)).trans ?_
    refine (R_if_eq (off := 41) (t := 60) (by decide +kernel) (by decide +kernel)).trans (ite_congr rfl (fun c1 => ?_) (fun c1 => ?_))
    · refine (R_iconst (n := 0) (v := 0) (by decide +kernel) (by decide +kernel)).trans ?_
      refine (R_pure0 (ins := .istore 4) (len := 2) (loc' := [.ref 68, .int x1, .int x2, .int x3, .int 0, .int x5]) (st' := []) (by decide +kernel) (fun _ => rfl)).trans ?_
      refine (R_iinc (k := 5) (n := 2) (x := x5) (v := (x5 + 2)) (loc' := [.ref 68, .int x1, .int x2, .int x3, .int 0, .int (x5 + 2)]) (by decide +kernel) rfl rfl rfl).trans ?_
      refine (R_goto (off := (-60)) (t := 6) (by decide +kernel) (by decide +kernel)).trans ?_
      rfl
    · refine (R_pure0 (ins := .iload_n 1) (len := 1) (loc' := [.ref 68, .int x1, .int x2, .int x3, .int x4, .int x5]) (st' := [.int x1]) (by decide +kernel) (fun _ => rfl)).trans ?_
      refine (R_pure0 (ins := .iload_n 2) (len := 1) (loc' := [.ref 68, .int x1, .int x2, .int x3, .int x4, .int x5]) (st' := [.int x2, .int x1]) (by decide +kernel) (fun _ => rfl)).trans ?_
      refine (R_pure0 (ins := .aload_n 0) (len := 1) (loc' := [.ref 68, .int x1, .int x2, .int x3, .int x4, .int x5]) (st' := [.ref 68, .int x2, .int x1]) (by decide +kernel) (fun _ => rfl)).trans ?_
      refine (R_gr (i := 13) (ci := 10) (k := 1) (n := 33) (b := 70) (by decide +kernel) (by decide +kernel) (by decide) rfl (SH_ref (by decide +kernel))).trans ?_
      refine (R_bipush (n := 40) (v := 40) (by decide +kernel) (by decide +kernel)).trans ?_
      refine (R_pure0 (ins := .iload_n 3) (len := 1) (loc' := [.ref 68, .int x1, .int x2, .int x3, .int x4, .int x5]) (st' := [.int x3, .int 40, .ref 70, .int x2, .int x1]) (by decide +kernel) (fun _ => rfl)).trans ?_
      refine (R_pure0 (ins := .imul) (len := 1) (loc' := [.ref 68, .int x1, .int x2, .int x3, .int x4, .int x5]) (st' := [.int (40 * x3), .ref 70, .int x2, .int x1]) (by decide +kernel) (fun _ => rfl)).trans ?_
      refine (R_pure0 (ins := .iload 5) (len := 2) (loc' := [.ref 68, .int x1, .int x2, .int x3, .int x4, .int x5]) (st' := [.int x5, .int (40 * x3), .ref 70, .int x2, .int x1]) (by decide +kernel) (fun _ => rfl)).trans ?_
      refine (R_pure0 (ins := .iadd) (len := 1) (loc' := [.ref 68, .int x1, .int x2, .int x3, .int x4, .int x5]) (st' := [.int ((40 * x3) + x5), .ref 70, .int x2, .int x1]) (by decide +kernel) (fun _ => rfl)).trans ?_
      refine (R_iaload (kd := 100) (n := 240) (by decide +kernel) rfl (by decide) (h2 c0 c1)).trans ?_
      refine (R_static (i := 153) (f := 179) (kd := 2) (na := 3) (ml := 3) (As := [.int x1, .int x2, .int (mi 70 ((40 * x3) + x5).toNatClampNeg)]) (rest := []) (by decide +kernel) (by decide +kernel) (by decide) (by decide +kernel) rfl rfl (by decide +kernel) (Nat.le_of_ble_eq_true rfl)).trans ?_
      rfl
  · refine (R_pure0 (ins := .iload 4) (len := 2) (loc' := [.ref 68, .int x1, .int x2, .int x3, .int x4, .int x5]) (st' := [.int x4]) (by decide +kernel) (fun _ => rfl)).trans ?_
    exact R_zreturn (by decide +kernel) (by decide +kernel) (h3 c0)
theorem s216_39 {L : Nat} {mi : Nat → Nat → Int32} {ml : Nat → Nat → Int64} {d : Nat} {Q : Option Value → xM → Prop} {x1 x2 x3 x4 x5 y : Int32} (h1 : xin (((40 * x3) + x5) + 1) 240 = true) : X 216 39 [.ref 68, .int x1, .int x2, .int x3, .int x4, .int x5] [.int y] (SH L, mi, ml, MR) d Q =
    if (y = (mi 70 (((40 * x3) + x5) + 1).toNatClampNeg)) then (X 216 6 [.ref 68, .int x1, .int x2, .int x3, .int 1, .int (x5 + 2)] [] (SH L, mi, ml, MR) d Q) else (X 216 6 [.ref 68, .int x1, .int x2, .int x3, .int 0, .int (x5 + 2)] [] (SH L, mi, ml, MR) d Q) := by
  refine (R_pure0 (ins := .aload_n 0) (len := 1) (loc' := [.ref 68, .int x1, .int x2, .int x3, .int x4, .int x5]) (st' := [.ref 68, .int y]) (by decide +kernel) (fun _ => rfl)).trans ?_
  refine (R_gr (i := 13) (ci := 10) (k := 1) (n := 33) (b := 70) (by decide +kernel) (by decide +kernel) (by decide) rfl (SH_ref (by decide +kernel))).trans ?_
  refine (R_bipush (n := 40) (v := 40) (by decide +kernel) (by decide +kernel)).trans ?_
  refine (R_pure0 (ins := .iload_n 3) (len := 1) (loc' := [.ref 68, .int x1, .int x2, .int x3, .int x4, .int x5]) (st' := [.int x3, .int 40, .ref 70, .int y]) (by decide +kernel) (fun _ => rfl)).trans ?_
  refine (R_pure0 (ins := .imul) (len := 1) (loc' := [.ref 68, .int x1, .int x2, .int x3, .int x4, .int x5]) (st' := [.int (40 * x3), .ref 70, .int y]) (by decide +kernel) (fun _ => rfl)).trans ?_
  refine (R_pure0 (ins := .iload 5) (len := 2) (loc' := [.ref 68, .int x1, .int x2, .int x3, .int x4, .int x5]) (st' := [.int x5, .int (40 * x3), .ref 70, .int y]) (by decide +kernel) (fun _ => rfl)).trans ?_
  refine (R_pure0 (ins := .iadd) (len := 1) (loc' := [.ref 68, .int x1, .int x2, .int x3, .int x4, .int x5]) (st' := [.int ((40 * x3) + x5), .ref 70, .int y]) (by decide +kernel) (fun _ => rfl)).trans ?_
  refine (R_iconst (n := 1) (v := 1) (by decide +kernel) (by decide +kernel)).trans ?_
  refine (R_pure0 (ins := .iadd) (len := 1) (loc' := [.ref 68, .int x1, .int x2, .int x3, .int x4, .int x5]) (st' := [.int (((40 * x3) + x5) + 1), .ref 70, .int y]) (by decide +kernel) (fun _ => rfl)).trans ?_
  refine (R_iaload (kd := 100) (n := 240) (by decide +kernel) rfl (by decide) (h1)).trans ?_
  refine (R_icmp_ne (off := 7) (t := 60) (by decide +kernel) (by decide +kernel)).trans (ite_congr rfl (fun c0 => ?_) (fun c0 => ?_))
  · refine (R_iconst (n := 1) (v := 1) (by decide +kernel) (by decide +kernel)).trans ?_
    refine (R_goto (off := 4) (t := 61) (by decide +kernel) (by decide +kernel)).trans ?_
    refine (R_pure0 (ins := .istore 4) (len := 2) (loc' := [.ref 68, .int x1, .int x2, .int x3, .int 1, .int x5]) (st' := []) (by decide +kernel) (fun _ => rfl)).trans ?_
    refine (R_iinc (k := 5) (n := 2) (x := x5) (v := (x5 + 2)) (loc' := [.ref 68, .int x1, .int x2, .int x3, .int 1, .int (x5 + 2)]) (by decide +kernel) rfl rfl rfl).trans ?_
    refine (R_goto (off := (-60)) (t := 6) (by decide +kernel) (by decide +kernel)).trans ?_
    rfl
  · refine (R_iconst (n := 0) (v := 0) (by decide +kernel) (by decide +kernel)).trans ?_
    refine (R_pure0 (ins := .istore 4) (len := 2) (loc' := [.ref 68, .int x1, .int x2, .int x3, .int 0, .int x5]) (st' := []) (by decide +kernel) (fun _ => rfl)).trans ?_
    refine (R_iinc (k := 5) (n := 2) (x := x5) (v := (x5 + 2)) (loc' := [.ref 68, .int x1, .int x2, .int x3, .int 0, .int (x5 + 2)]) (by decide +kernel) rfl rfl rfl).trans ?_
    refine (R_goto (off := (-60)) (t := 6) (by decide +kernel) (by decide +kernel)).trans ?_
    rfl
theorem s217 {L : Nat} {mi : Nat → Nat → Int32} {ml : Nat → Nat → Int64} {d : Nat} {Q : Option Value → xM → Prop} {x1 x2 : Int32} : Xm 217 [.ref 68, .int x1, .int x2] (SH L, mi, ml, MR) (d + 1) Q =
    Xm 172 [.ref 68, .int x1] (SH L, mi, ml, MR) d (fun v μ' => X 217 5 [.ref 68, .int x1, .int x2, xmk, xmk, xmk] (v.toList ++ []) μ' (d + 1) Q) := by
  rw [Xm_ent (n := 6) (loc := [.ref 68, .int x1, .int x2, xmk, xmk, xmk]) (by decide +kernel) rfl]
  refine (R_pure0 (ins := .aload_n 0) (len := 1) (loc' := [.ref 68, .int x1, .int x2, xmk, xmk, xmk]) (st' := [.ref 68]) (by decide +kernel) (fun _ => rfl)).trans ?_
  refine (R_pure0 (ins := .iload_n 1) (len := 1) (loc' := [.ref 68, .int x1, .int x2, xmk, xmk, xmk]) (st' := [.int x1, .ref 68]) (by decide +kernel) (fun _ => rfl)).trans ?_
  refine (R_virt (i := 169) (f := 172) (kd := 0) (na := 1) (ml := 2) (ci := 10) (n := 33) (b := 68) (As := [.int x1]) (rest := []) (by decide +kernel) (by decide +kernel) (by decide) (by decide +kernel) rfl (by decide +kernel) rfl rfl (by decide +kernel) (Nat.le_of_ble_eq_true rfl)).trans ?_
  rfl
theorem s217_5 {L : Nat} {mi : Nat → Nat → Int32} {ml : Nat → Nat → Int64} {d : Nat} {Q : Option Value → xM → Prop} {x1 x2 y : Int32} : X 217 5 [.ref 68, .int x1, .int x2, xmk, xmk, xmk] [.int y] (SH L, mi, ml, MR) (d + 1) Q =
    if (y = 0) then (Q (some (.int (-1))) (SH L, mi, ml, MR)) else (Xm 155 [.int x2] (SH L, mi, ml, MR) d (fun v μ' => X 217 12 [.ref 68, .int x1, .int x2, xmk, xmk, xmk] (v.toList ++ []) μ' (d + 1) Q)) := by
  refine (R_if_eq (off := 10) (t := 15) (by decide +kernel) (by decide +kernel)).trans (ite_congr rfl (fun c0 => ?_) (fun c0 => ?_))
  · refine (R_iconst (n := (-1)) (v := (-1)) (by decide +kernel) (by decide +kernel)).trans ?_
    exact R_ireturn (by decide +kernel) (by decide +kernel)
  · refine (R_pure0 (ins := .iload_n 2) (len := 1) (loc' := [.ref 68, .int x1, .int x2, xmk, xmk, xmk]) (st' := [.int x2]) (by decide +kernel) (fun _ => rfl)).trans ?_
    refine (R_static (i := 93) (f := 155) (kd := 2) (na := 1) (ml := 1) (As := [.int x2]) (rest := []) (by decide +kernel) (by decide +kernel) (by decide) (by decide +kernel) rfl rfl (by decide +kernel) (Nat.le_of_ble_eq_true rfl)).trans ?_
    rfl
theorem s217_12 {L : Nat} {mi : Nat → Nat → Int32} {ml : Nat → Nat → Int64} {d : Nat} {Q : Option Value → xM → Prop} {x1 x2 y : Int32} : X 217 12 [.ref 68, .int x1, .int x2, xmk, xmk, xmk] [.int y] (SH L, mi, ml, MR) (d + 1) Q =
    if (y = 0) then (Q (some (.int (-1))) (SH L, mi, ml, MR)) else (Xm 215 [.ref 68, .int x2] (SH L, mi, ml, MR) d (fun v μ' => X 217 22 [.ref 68, .int x1, .int x2, xmk, xmk, xmk] (v.toList ++ []) μ' (d + 1) Q)) := by
  refine (R_if_ne (off := 5) (t := 17) (by decide +kernel) (by decide +kernel)).trans (ite_congr rfl (fun c0 => ?_) (fun c0 => ?_))
  · refine (R_iconst (n := (-1)) (v := (-1)) (by decide +kernel) (by decide +kernel)).trans ?_
    exact R_ireturn (by decide +kernel) (by decide +kernel)
  · refine (R_pure0 (ins := .aload_n 0) (len := 1) (loc' := [.ref 68, .int x1, .int x2, xmk, xmk, xmk]) (st' := [.ref 68]) (by decide +kernel) (fun _ => rfl)).trans ?_
    refine (R_pure0 (ins := .iload_n 2) (len := 1) (loc' := [.ref 68, .int x1, .int x2, xmk, xmk, xmk]) (st' := [.int x2, .ref 68]) (by decide +kernel) (fun _ => rfl)).trans ?_
    refine (R_virt (i := 256) (f := 215) (kd := 0) (na := 1) (ml := 4) (ci := 10) (n := 33) (b := 68) (As := [.int x2]) (rest := []) (by decide +kernel) (by decide +kernel) (by decide) (by decide +kernel) rfl (by decide +kernel) rfl rfl (by decide +kernel) (Nat.le_of_ble_eq_true rfl)).trans ?_
    rfl
theorem s217_22 {L : Nat} {mi : Nat → Nat → Int32} {ml : Nat → Nat → Int64} {d : Nat} {Q : Option Value → xM → Prop} {x1 x2 y : Int32} : X 217 22 [.ref 68, .int x1, .int x2, xmk, xmk, xmk] [.int y] (SH L, mi, ml, MR) (d + 1) Q =
    if (y = 0) then (X 217 39 [.ref 68, .int x1, .int x2, .int y, .int 0, .int 0] [] (SH L, mi, ml, MR) (d + 1) Q) else (Xm 152 [.ref 68, .int y] (SH L, mi, ml, MR) d (fun v μ' => X 217 32 [.ref 68, .int x1, .int x2, .int y, xmk, xmk] (v.toList ++ []) μ' (d + 1) Q)) := by
  refine (R_pure0 (ins := .istore_n 3) (len := 1) (loc' := [.ref 68, .int x1, .int x2, .int y, xmk, xmk]) (st' := []) (by decide +kernel) (fun _ => rfl)).trans ?_
  refine (R_pure0 (ins := .iload_n 3) (len := 1) (loc' := [.ref 68, .int x1, .int x2, .int y, xmk, xmk]) (st' := [.int y]) (by decide +kernel) (fun _ => rfl)).trans ?_
  refine (R_if_eq (off := 9) (t := 33) (by decide +kernel) (by decide +kernel)).trans (ite_congr rfl (fun c0 => ?_) (fun c0 => ?_))
  · refine (R_iconst (n := 0) (v := 0) (by decide +kernel) (by decide +kernel)).trans ?_
    refine (R_pure0 (ins := .istore 4) (len := 2) (loc' := [.ref 68, .int x1, .int x2, .int y, .int 0, xmk]) (st' := []) (by decide +kernel) (fun _ => rfl)).trans ?_
    refine (R_iconst (n := 0) (v := 0) (by decide +kernel) (by decide +kernel)).trans ?_
    refine (R_pure0 (ins := .istore 5) (len := 2) (loc' := [.ref 68, .int x1, .int x2, .int y, .int 0, .int 0]) (st' := []) (by decide +kernel) (fun _ => rfl)).trans ?_
    rfl
  · refine (R_pure0 (ins := .aload_n 0) (len := 1) (loc' := [.ref 68, .int x1, .int x2, .int y, xmk, xmk]) (st' := [.ref 68]) (by decide +kernel) (fun _ => rfl)).trans ?_
    refine (R_pure0 (ins := .iload_n 3) (len := 1) (loc' := [.ref 68, .int x1, .int x2, .int y, xmk, xmk]) (st' := [.int y, .ref 68]) (by decide +kernel) (fun _ => rfl)).trans ?_
    refine (R_virt (i := 97) (f := 152) (kd := 0) (na := 1) (ml := 2) (ci := 10) (n := 33) (b := 68) (As := [.int y]) (rest := []) (by decide +kernel) (by decide +kernel) (by decide) (by decide +kernel) rfl (by decide +kernel) rfl rfl (by decide +kernel) (Nat.le_of_ble_eq_true rfl)).trans ?_
    rfl
theorem s217_39 {L : Nat} {mi : Nat → Nat → Int32} {ml : Nat → Nat → Int64} {d : Nat} {Q : Option Value → xM → Prop} {x1 x2 x3 x4 x5 : Int32} (h1 : (x5 < 10) → xin x1 6 = true) : X 217 39 [.ref 68, .int x1, .int x2, .int x3, .int x4, .int x5] [] (SH L, mi, ml, MR) (d + 1) Q =
    if (x5 < 10) then (Xm 216 [.ref 68, .int (mi 73 x1.toNatClampNeg), .int x5, .int x2] (SH L, mi, ml, MR) d (fun v μ' => X 217 61 [.ref 68, .int x1, .int x2, .int x3, .int x4, .int x5] (v.toList ++ [.int x4]) μ' (d + 1) Q)) else (Q (some (.int x4)) (SH L, mi, ml, MR)) := by
  refine (R_pure0 (ins := .iload 5) (len := 2) (loc' := [.ref 68, .int x1, .int x2, .int x3, .int x4, .int x5]) (st' := [.int x5]) (by decide +kernel) (fun _ => rfl)).trans ?_
  refine (R_bipush (n := 10) (v := 10) (by decide +kernel) (by decide +kernel)).trans ?_
  refine (R_icmp_ge (off := 38) (t := 81) (by decide +kernel) (by decide +kernel)).trans (ite_congr rfl (fun c0 => ?_) (fun c0 => ?_))
  · refine (R_pure0 (ins := .iload 4) (len := 2) (loc' := [.ref 68, .int x1, .int x2, .int x3, .int x4, .int x5]) (st' := [.int x4]) (by decide +kernel) (fun _ => rfl)).trans ?_
    refine (R_pure0 (ins := .aload_n 0) (len := 1) (loc' := [.ref 68, .int x1, .int x2, .int x3, .int x4, .int x5]) (st' := [.ref 68, .int x4]) (by decide +kernel) (fun _ => rfl)).trans ?_
    refine (R_pure0 (ins := .aload_n 0) (len := 1) (loc' := [.ref 68, .int x1, .int x2, .int x3, .int x4, .int x5]) (st' := [.ref 68, .ref 68, .int x4]) (by decide +kernel) (fun _ => rfl)).trans ?_
    refine (R_gr (i := 22) (ci := 10) (k := 5) (n := 33) (b := 73) (by decide +kernel) (by decide +kernel) (by decide) rfl (SH_ref (by decide +kernel))).trans ?_
    refine (R_pure0 (ins := .iload_n 1) (len := 1) (loc' := [.ref 68, .int x1, .int x2, .int x3, .int x4, .int x5]) (st' := [.int x1, .ref 73, .ref 68, .int x4]) (by decide +kernel) (fun _ => rfl)).trans ?_
    refine (R_iaload (kd := 100) (n := 6) (by decide +kernel) rfl (by decide) (h1 c0)).trans ?_
    refine (R_pure0 (ins := .iload 5) (len := 2) (loc' := [.ref 68, .int x1, .int x2, .int x3, .int x4, .int x5]) (st' := [.int x5, .int (mi 73 x1.toNatClampNeg), .ref 68, .int x4]) (by decide +kernel) (fun _ => rfl)).trans ?_
    refine (R_pure0 (ins := .iload_n 2) (len := 1) (loc' := [.ref 68, .int x1, .int x2, .int x3, .int x4, .int x5]) (st' := [.int x2, .int x5, .int (mi 73 x1.toNatClampNeg), .ref 68, .int x4]) (by decide +kernel) (fun _ => rfl)).trans ?_
    refine (R_virt (i := 259) (f := 216) (kd := 0) (na := 3) (ml := 6) (ci := 10) (n := 33) (b := 68) (As := [.int (mi 73 x1.toNatClampNeg), .int x5, .int x2]) (rest := [.int x4]) (by decide +kernel) (by decide +kernel) (by decide) (by decide +kernel) rfl (by decide +kernel) rfl rfl (by decide +kernel) (Nat.le_of_ble_eq_true rfl)).trans ?_
    rfl
  · refine (R_pure0 (ins := .iload 4) (len := 2) (loc' := [.ref 68, .int x1, .int x2, .int x3, .int x4, .int x5]) (st' := [.int x4]) (by decide +kernel) (fun _ => rfl)).trans ?_
    exact R_ireturn (by decide +kernel) (by decide +kernel)
theorem s217_32 {L : Nat} {mi : Nat → Nat → Int32} {ml : Nat → Nat → Int64} {d : Nat} {Q : Option Value → xM → Prop} {x1 x2 x3 y : Int32} : X 217 32 [.ref 68, .int x1, .int x2, .int x3, xmk, xmk] [.int y] (SH L, mi, ml, MR) d Q =
    Q (some (.int y)) (SH L, mi, ml, MR) := by
  exact R_ireturn (by decide +kernel) (by decide +kernel)
theorem s217_61 {L : Nat} {mi : Nat → Nat → Int32} {ml : Nat → Nat → Int64} {d : Nat} {Q : Option Value → xM → Prop} {x1 x2 x3 x4 x5 y z0 : Int32} : X 217 61 [.ref 68, .int x1, .int x2, .int x3, .int x4, .int x5] [.int y, .int z0] (SH L, mi, ml, MR) d Q =
    if (y = 0) then (X 217 39 [.ref 68, .int x1, .int x2, .int x3, .int (z0 ||| 0), .int (x5 + 1)] [] (SH L, mi, ml, MR) d Q) else (X 217 39 [.ref 68, .int x1, .int x2, .int x3, .int (z0 ||| (1 <<< (x5 &&& 31))), .int (x5 + 1)] [] (SH L, mi, ml, MR) d Q) := by
  refine (R_if_eq (off := 10) (t := 71) (by decide +kernel) (by decide +kernel)).trans (ite_congr rfl (fun c0 => ?_) (fun c0 => ?_))
  · refine (R_iconst (n := 0) (v := 0) (by decide +kernel) (by decide +kernel)).trans ?_
    refine (R_pure0 (ins := .ior) (len := 1) (loc' := [.ref 68, .int x1, .int x2, .int x3, .int x4, .int x5]) (st' := [.int (z0 ||| 0)]) (by decide +kernel) (fun _ => rfl)).trans ?_
    refine (R_pure0 (ins := .istore 4) (len := 2) (loc' := [.ref 68, .int x1, .int x2, .int x3, .int (z0 ||| 0), .int x5]) (st' := []) (by decide +kernel) (fun _ => rfl)).trans ?_
    refine (R_iinc (k := 5) (n := 1) (x := x5) (v := (x5 + 1)) (loc' := [.ref 68, .int x1, .int x2, .int x3, .int (z0 ||| 0), .int (x5 + 1)]) (by decide +kernel) rfl rfl rfl).trans ?_
    refine (R_goto (off := (-39)) (t := 39) (by decide +kernel) (by decide +kernel)).trans ?_
    rfl
  · refine (R_iconst (n := 1) (v := 1) (by decide +kernel) (by decide +kernel)).trans ?_
    refine (R_pure0 (ins := .iload 5) (len := 2) (loc' := [.ref 68, .int x1, .int x2, .int x3, .int x4, .int x5]) (st' := [.int x5, .int 1, .int z0]) (by decide +kernel) (fun _ => rfl)).trans ?_
    refine (R_pure0 (ins := .ishl) (len := 1) (loc' := [.ref 68, .int x1, .int x2, .int x3, .int x4, .int x5]) (st' := [.int (1 <<< (x5 &&& 31)), .int z0]) (by decide +kernel) (fun _ => rfl)).trans ?_
    refine (R_goto (off := 4) (t := 72) (by decide +kernel) (by decide +kernel)).trans ?_
    refine (R_pure0 (ins := .ior) (len := 1) (loc' := [.ref 68, .int x1, .int x2, .int x3, .int x4, .int x5]) (st' := [.int (z0 ||| (1 <<< (x5 &&& 31)))]) (by decide +kernel) (fun _ => rfl)).trans ?_
    refine (R_pure0 (ins := .istore 4) (len := 2) (loc' := [.ref 68, .int x1, .int x2, .int x3, .int (z0 ||| (1 <<< (x5 &&& 31))), .int x5]) (st' := []) (by decide +kernel) (fun _ => rfl)).trans ?_
    refine (R_iinc (k := 5) (n := 1) (x := x5) (v := (x5 + 1)) (loc' := [.ref 68, .int x1, .int x2, .int x3, .int (z0 ||| (1 <<< (x5 &&& 31))), .int (x5 + 1)]) (by decide +kernel) rfl rfl rfl).trans ?_
    refine (R_goto (off := (-39)) (t := 39) (by decide +kernel) (by decide +kernel)).trans ?_
    rfl
theorem s218 {L : Nat} {mi : Nat → Nat → Int32} {ml : Nat → Nat → Int64} {d : Nat} {Q : Option Value → xM → Prop} {x1 x2 : Int32} : Xm 218 [.ref 68, .int x1, .int x2] (SH L, mi, ml, MR) (d + 1) Q =
    Xm 172 [.ref 68, .int x1] (SH L, mi, ml, MR) d (fun v μ' => X 218 5 [.ref 68, .int x1, .int x2, xmk, xmk, xmk] (v.toList ++ []) μ' (d + 1) Q) := by
  rw [Xm_ent (n := 6) (loc := [.ref 68, .int x1, .int x2, xmk, xmk, xmk]) (by decide +kernel) rfl]
  refine (R_pure0 (ins := .aload_n 0) (len := 1) (loc' := [.ref 68, .int x1, .int x2, xmk, xmk, xmk]) (st' := [.ref 68]) (by decide +kernel) (fun _ => rfl)).trans ?_
  refine (R_pure0 (ins := .iload_n 1) (len := 1) (loc' := [.ref 68, .int x1, .int x2, xmk, xmk, xmk]) (st' := [.int x1, .ref 68]) (by decide +kernel) (fun _ => rfl)).trans ?_
  refine (R_virt (i := 169) (f := 172) (kd := 0) (na := 1) (ml := 2) (ci := 10) (n := 33) (b := 68) (As := [.int x1]) (rest := []) (by decide +kernel) (by decide +kernel) (by decide) (by decide +kernel) rfl (by decide +kernel) rfl rfl (by decide +kernel) (Nat.le_of_ble_eq_true rfl)).trans ?_
  rfl
theorem s218_5 {L : Nat} {mi : Nat → Nat → Int32} {ml : Nat → Nat → Int64} {d : Nat} {Q : Option Value → xM → Prop} {x1 x2 y : Int32} : X 218 5 [.ref 68, .int x1, .int x2, xmk, xmk, xmk] [.int y] (SH L, mi, ml, MR) (d + 1) Q =
    if (y = 0) then (Q (some (.int (-1))) (SH L, mi, ml, MR)) else (Xm 155 [.int x2] (SH L, mi, ml, MR) d (fun v μ' => X 218 12 [.ref 68, .int x1, .int x2, xmk, xmk, xmk] (v.toList ++ []) μ' (d + 1) Q)) := by
  refine (R_if_eq (off := 10) (t := 15) (by decide +kernel) (by decide +kernel)).trans (ite_congr rfl (fun c0 => ?_) (fun c0 => ?_))
  · refine (R_iconst (n := (-1)) (v := (-1)) (by decide +kernel) (by decide +kernel)).trans ?_
    exact R_ireturn (by decide +kernel) (by decide +kernel)
  · refine (R_pure0 (ins := .iload_n 2) (len := 1) (loc' := [.ref 68, .int x1, .int x2, xmk, xmk, xmk]) (st' := [.int x2]) (by decide +kernel) (fun _ => rfl)).trans ?_
    refine (R_static (i := 93) (f := 155) (kd := 2) (na := 1) (ml := 1) (As := [.int x2]) (rest := []) (by decide +kernel) (by decide +kernel) (by decide) (by decide +kernel) rfl rfl (by decide +kernel) (Nat.le_of_ble_eq_true rfl)).trans ?_
    rfl
theorem s218_12 {L : Nat} {mi : Nat → Nat → Int32} {ml : Nat → Nat → Int64} {d : Nat} {Q : Option Value → xM → Prop} {x1 x2 y : Int32} : X 218 12 [.ref 68, .int x1, .int x2, xmk, xmk, xmk] [.int y] (SH L, mi, ml, MR) (d + 1) Q =
    if (y = 0) then (Q (some (.int (-1))) (SH L, mi, ml, MR)) else (Xm 215 [.ref 68, .int x2] (SH L, mi, ml, MR) d (fun v μ' => X 218 22 [.ref 68, .int x1, .int x2, xmk, xmk, xmk] (v.toList ++ []) μ' (d + 1) Q)) := by
  refine (R_if_ne (off := 5) (t := 17) (by decide +kernel) (by decide +kernel)).trans (ite_congr rfl (fun c0 => ?_) (fun c0 => ?_))
  · refine (R_iconst (n := (-1)) (v := (-1)) (by decide +kernel) (by decide +kernel)).trans ?_
    exact R_ireturn (by decide +kernel) (by decide +kernel)
  · refine (R_pure0 (ins := .aload_n 0) (len := 1) (loc' := [.ref 68, .int x1, .int x2, xmk, xmk, xmk]) (st' := [.ref 68]) (by decide +kernel) (fun _ => rfl)).trans ?_
    refine (R_pure0 (ins := .iload_n 2) (len := 1) (loc' := [.ref 68, .int x1, .int x2, xmk, xmk, xmk]) (st' := [.int x2, .ref 68]) (by decide +kernel) (fun _ => rfl)).trans ?_
    refine (R_virt (i := 256) (f := 215) (kd := 0) (na := 1) (ml := 4) (ci := 10) (n := 33) (b := 68) (As := [.int x2]) (rest := []) (by decide +kernel) (by decide +kernel) (by decide) (by decide +kernel) rfl (by decide +kernel) rfl rfl (by decide +kernel) (Nat.le_of_ble_eq_true rfl)).trans ?_
    rfl
theorem s218_22 {L : Nat} {mi : Nat → Nat → Int32} {ml : Nat → Nat → Int64} {d : Nat} {Q : Option Value → xM → Prop} {x1 x2 y : Int32} : X 218 22 [.ref 68, .int x1, .int x2, xmk, xmk, xmk] [.int y] (SH L, mi, ml, MR) (d + 1) Q =
    if (y = 0) then (X 218 39 [.ref 68, .int x1, .int x2, .int y, .int 0, .int 0] [] (SH L, mi, ml, MR) (d + 1) Q) else (Xm 152 [.ref 68, .int y] (SH L, mi, ml, MR) d (fun v μ' => X 218 32 [.ref 68, .int x1, .int x2, .int y, xmk, xmk] (v.toList ++ []) μ' (d + 1) Q)) := by
  refine (R_pure0 (ins := .istore_n 3) (len := 1) (loc' := [.ref 68, .int x1, .int x2, .int y, xmk, xmk]) (st' := []) (by decide +kernel) (fun _ => rfl)).trans ?_
  refine (R_pure0 (ins := .iload_n 3) (len := 1) (loc' := [.ref 68, .int x1, .int x2, .int y, xmk, xmk]) (st' := [.int y]) (by decide +kernel) (fun _ => rfl)).trans ?_
  refine (R_if_eq (off := 9) (t := 33) (by decide +kernel) (by decide +kernel)).trans (ite_congr rfl (fun c0 => ?_) (fun c0 => ?_))
  · refine (R_iconst (n := 0) (v := 0) (by decide +kernel) (by decide +kernel)).trans ?_
    refine (R_pure0 (ins := .istore 4) (len := 2) (loc' := [.ref 68, .int x1, .int x2, .int y, .int 0, xmk]) (st' := []) (by decide +kernel) (fun _ => rfl)).trans ?_
    refine (R_iconst (n := 0) (v := 0) (by decide +kernel) (by decide +kernel)).trans ?_
    refine (R_pure0 (ins := .istore 5) (len := 2) (loc' := [.ref 68, .int x1, .int x2, .int y, .int 0, .int 0]) (st' := []) (by decide +kernel) (fun _ => rfl)).trans ?_
    rfl
  · refine (R_pure0 (ins := .aload_n 0) (len := 1) (loc' := [.ref 68, .int x1, .int x2, .int y, xmk, xmk]) (st' := [.ref 68]) (by decide +kernel) (fun _ => rfl)).trans ?_
    refine (R_pure0 (ins := .iload_n 3) (len := 1) (loc' := [.ref 68, .int x1, .int x2, .int y, xmk, xmk]) (st' := [.int y, .ref 68]) (by decide +kernel) (fun _ => rfl)).trans ?_
    refine (R_virt (i := 97) (f := 152) (kd := 0) (na := 1) (ml := 2) (ci := 10) (n := 33) (b := 68) (As := [.int y]) (rest := []) (by decide +kernel) (by decide +kernel) (by decide) (by decide +kernel) rfl (by decide +kernel) rfl rfl (by decide +kernel) (Nat.le_of_ble_eq_true rfl)).trans ?_
    rfl
theorem s218_39 {L : Nat} {mi : Nat → Nat → Int32} {ml : Nat → Nat → Int64} {d : Nat} {Q : Option Value → xM → Prop} {x1 x2 x3 x4 x5 : Int32} (h1 : (x5 < 6) → xin x1 6 = true) : X 218 39 [.ref 68, .int x1, .int x2, .int x3, .int x4, .int x5] [] (SH L, mi, ml, MR) (d + 1) Q =
    if (x5 < 6) then (Xm 216 [.ref 68, .int x5, .int (mi 76 x1.toNatClampNeg), .int x2] (SH L, mi, ml, MR) d (fun v μ' => X 218 61 [.ref 68, .int x1, .int x2, .int x3, .int x4, .int x5] (v.toList ++ [.int x4]) μ' (d + 1) Q)) else (Q (some (.int x4)) (SH L, mi, ml, MR)) := by
  refine (R_pure0 (ins := .iload 5) (len := 2) (loc' := [.ref 68, .int x1, .int x2, .int x3, .int x4, .int x5]) (st' := [.int x5]) (by decide +kernel) (fun _ => rfl)).trans ?_
  refine (R_bipush (n := 6) (v := 6) (by decide +kernel) (by decide +kernel)).trans ?_
  refine (R_icmp_ge (off := 38) (t := 81) (by decide +kernel) (by decide +kernel)).trans (ite_congr rfl (fun c0 => ?_) (fun c0 => ?_))
  · refine (R_pure0 (ins := .iload 4) (len := 2) (loc' := [.ref 68, .int x1, .int x2, .int x3, .int x4, .int x5]) (st' := [.int x4]) (by decide +kernel) (fun _ => rfl)).trans ?_
    refine (R_pure0 (ins := .aload_n 0) (len := 1) (loc' := [.ref 68, .int x1, .int x2, .int x3, .int x4, .int x5]) (st' := [.ref 68, .int x4]) (by decide +kernel) (fun _ => rfl)).trans ?_
    refine (R_pure0 (ins := .iload 5) (len := 2) (loc' := [.ref 68, .int x1, .int x2, .int x3, .int x4, .int x5]) (st' := [.int x5, .ref 68, .int x4]) (by decide +kernel) (fun _ => rfl)).trans ?_
    refine (R_pure0 (ins := .aload_n 0) (len := 1) (loc' := [.ref 68, .int x1, .int x2, .int x3, .int x4, .int x5]) (st' := [.ref 68, .int x5, .ref 68, .int x4]) (by decide +kernel) (fun _ => rfl)).trans ?_
    refine (R_gr (i := 31) (ci := 10) (k := 8) (n := 33) (b := 76) (by decide +kernel) (by decide +kernel) (by decide) rfl (SH_ref (by decide +kernel))).trans ?_
    refine (R_pure0 (ins := .iload_n 1) (len := 1) (loc' := [.ref 68, .int x1, .int x2, .int x3, .int x4, .int x5]) (st' := [.int x1, .ref 76, .int x5, .ref 68, .int x4]) (by decide +kernel) (fun _ => rfl)).trans ?_
    refine (R_iaload (kd := 100) (n := 6) (by decide +kernel) rfl (by decide) (h1 c0)).trans ?_
    refine (R_pure0 (ins := .iload_n 2) (len := 1) (loc' := [.ref 68, .int x1, .int x2, .int x3, .int x4, .int x5]) (st' := [.int x2, .int (mi 76 x1.toNatClampNeg), .int x5, .ref 68, .int x4]) (by decide +kernel) (fun _ => rfl)).trans ?_
    refine (R_virt (i := 259) (f := 216) (kd := 0) (na := 3) (ml := 6) (ci := 10) (n := 33) (b := 68) (As := [.int x5, .int (mi 76 x1.toNatClampNeg), .int x2]) (rest := [.int x4]) (by decide +kernel) (by decide +kernel) (by decide) (by decide +kernel) rfl (by decide +kernel) rfl rfl (by decide +kernel) (Nat.le_of_ble_eq_true rfl)).trans ?_
    rfl
  · refine (R_pure0 (ins := .iload 4) (len := 2) (loc' := [.ref 68, .int x1, .int x2, .int x3, .int x4, .int x5]) (st' := [.int x4]) (by decide +kernel) (fun _ => rfl)).trans ?_
    exact R_ireturn (by decide +kernel) (by decide +kernel)
theorem s218_32 {L : Nat} {mi : Nat → Nat → Int32} {ml : Nat → Nat → Int64} {d : Nat} {Q : Option Value → xM → Prop} {x1 x2 x3 y : Int32} : X 218 32 [.ref 68, .int x1, .int x2, .int x3, xmk, xmk] [.int y] (SH L, mi, ml, MR) d Q =
    Q (some (.int y)) (SH L, mi, ml, MR) := by
  exact R_ireturn (by decide +kernel) (by decide +kernel)
theorem s218_61 {L : Nat} {mi : Nat → Nat → Int32} {ml : Nat → Nat → Int64} {d : Nat} {Q : Option Value → xM → Prop} {x1 x2 x3 x4 x5 y z0 : Int32} : X 218 61 [.ref 68, .int x1, .int x2, .int x3, .int x4, .int x5] [.int y, .int z0] (SH L, mi, ml, MR) d Q =
    if (y = 0) then (X 218 39 [.ref 68, .int x1, .int x2, .int x3, .int (z0 ||| 0), .int (x5 + 1)] [] (SH L, mi, ml, MR) d Q) else (X 218 39 [.ref 68, .int x1, .int x2, .int x3, .int (z0 ||| (1 <<< (x5 &&& 31))), .int (x5 + 1)] [] (SH L, mi, ml, MR) d Q) := by
  refine (R_if_eq (off := 10) (t := 71) (by decide +kernel) (by decide +kernel)).trans (ite_congr rfl (fun c0 => ?_) (fun c0 => ?_))
  · refine (R_iconst (n := 0) (v := 0) (by decide +kernel) (by decide +kernel)).trans ?_
    refine (R_pure0 (ins := .ior) (len := 1) (loc' := [.ref 68, .int x1, .int x2, .int x3, .int x4, .int x5]) (st' := [.int (z0 ||| 0)]) (by decide +kernel) (fun _ => rfl)).trans ?_
    refine (R_pure0 (ins := .istore 4) (len := 2) (loc' := [.ref 68, .int x1, .int x2, .int x3, .int (z0 ||| 0), .int x5]) (st' := []) (by decide +kernel) (fun _ => rfl)).trans ?_
    refine (R_iinc (k := 5) (n := 1) (x := x5) (v := (x5 + 1)) (loc' := [.ref 68, .int x1, .int x2, .int x3, .int (z0 ||| 0), .int (x5 + 1)]) (by decide +kernel) rfl rfl rfl).trans ?_
    refine (R_goto (off := (-39)) (t := 39) (by decide +kernel) (by decide +kernel)).trans ?_
    rfl
  · refine (R_iconst (n := 1) (v := 1) (by decide +kernel) (by decide +kernel)).trans ?_
    refine (R_pure0 (ins := .iload 5) (len := 2) (loc' := [.ref 68, .int x1, .int x2, .int x3, .int x4, .int x5]) (st' := [.int x5, .int 1, .int z0]) (by decide +kernel) (fun _ => rfl)).trans ?_
    refine (R_pure0 (ins := .ishl) (len := 1) (loc' := [.ref 68, .int x1, .int x2, .int x3, .int x4, .int x5]) (st' := [.int (1 <<< (x5 &&& 31)), .int z0]) (by decide +kernel) (fun _ => rfl)).trans ?_
    refine (R_goto (off := 4) (t := 72) (by decide +kernel) (by decide +kernel)).trans ?_
    refine (R_pure0 (ins := .ior) (len := 1) (loc' := [.ref 68, .int x1, .int x2, .int x3, .int x4, .int x5]) (st' := [.int (z0 ||| (1 <<< (x5 &&& 31)))]) (by decide +kernel) (fun _ => rfl)).trans ?_
    refine (R_pure0 (ins := .istore 4) (len := 2) (loc' := [.ref 68, .int x1, .int x2, .int x3, .int (z0 ||| (1 <<< (x5 &&& 31))), .int x5]) (st' := []) (by decide +kernel) (fun _ => rfl)).trans ?_
    refine (R_iinc (k := 5) (n := 1) (x := x5) (v := (x5 + 1)) (loc' := [.ref 68, .int x1, .int x2, .int x3, .int (z0 ||| (1 <<< (x5 &&& 31))), .int (x5 + 1)]) (by decide +kernel) rfl rfl rfl).trans ?_
    refine (R_goto (off := (-39)) (t := 39) (by decide +kernel) (by decide +kernel)).trans ?_
    rfl
theorem s219 {L : Nat} {mi : Nat → Nat → Int32} {ml : Nat → Nat → Int64} {d : Nat} {Q : Option Value → xM → Prop} {x1 x2 : Int32} : Xm 219 [.ref 68, .int x1, .int x2] (SH L, mi, ml, MR) d Q =
    X 219 2 [.ref 68, .int x1, .int x2, .int 0, xmk] [] (SH L, mi, ml, MR) d Q := by
  rw [Xm_ent (n := 5) (loc := [.ref 68, .int x1, .int x2, xmk, xmk]) (by decide +kernel) rfl]
  refine (R_iconst (n := 0) (v := 0) (by decide +kernel) (by decide +kernel)).trans ?_
  refine (R_pure0 (ins := .istore_n 3) (len := 1) (loc' := [.ref 68, .int x1, .int x2, .int 0, xmk]) (st' := []) (by decide +kernel) (fun _ => rfl)).trans ?_
  rfl
theorem s219_2 {L : Nat} {mi : Nat → Nat → Int32} {ml : Nat → Nat → Int64} {d : Nat} {Q : Option Value → xM → Prop} {x1 x2 x3 : Int32} (h1 : (x3 < 10) → xin x3 10 = true) : X 219 2 [.ref 68, .int x1, .int x2, .int x3, xmk] [] (SH L, mi, ml, MR) d Q =
    if (x3 < 10) then (X 219 2 [.ref 68, .int x1, .int x2, .int (x3 + 1), xmk] [] (SH L, (xw mi 86 x3.toNatClampNeg 0), ml, MR) d Q) else (X 219 23 [.ref 68, .int x1, .int x2, .int 0, xmk] [] (SH L, mi, ml, MR) d Q) := by
  refine (R_pure0 (ins := .iload_n 3) (len := 1) (loc' := [.ref 68, .int x1, .int x2, .int x3, xmk]) (st' := [.int x3]) (by decide +kernel) (fun _ => rfl)).trans ?_
  refine (R_bipush (n := 10) (v := 10) (by decide +kernel) (by decide +kernel)).trans ?_
  refine (R_icmp_ge (off := 16) (t := 21) (by decide +kernel) (by decide +kernel)).trans (ite_congr rfl (fun c0 => ?_) (fun c0 => ?_))
  · refine (R_pure0 (ins := .aload_n 0) (len := 1) (loc' := [.ref 68, .int x1, .int x2, .int x3, xmk]) (st' := [.ref 68]) (by decide +kernel) (fun _ => rfl)).trans ?_
    refine (R_gr (i := 66) (ci := 10) (k := 29) (n := 33) (b := 86) (by decide +kernel) (by decide +kernel) (by decide) rfl (SH_ref (by decide +kernel))).trans ?_
    refine (R_pure0 (ins := .iload_n 3) (len := 1) (loc' := [.ref 68, .int x1, .int x2, .int x3, xmk]) (st' := [.int x3, .ref 86]) (by decide +kernel) (fun _ => rfl)).trans ?_
    refine (R_iconst (n := 0) (v := 0) (by decide +kernel) (by decide +kernel)).trans ?_
    refine (R_iastore (n := 10) (by decide +kernel) rfl (h1 c0)).trans ?_
    refine (R_iinc (k := 3) (n := 1) (x := x3) (v := (x3 + 1)) (loc' := [.ref 68, .int x1, .int x2, .int (x3 + 1), xmk]) (by decide +kernel) rfl rfl rfl).trans ?_
    refine (R_goto (off := (-16)) (t := 2) (by decide +kernel) (by decide +kernel)).trans ?_
    rfl
  · refine (R_iconst (n := 0) (v := 0) (by decide +kernel) (by decide +kernel)).trans ?_
    refine (R_pure0 (ins := .istore_n 3) (len := 1) (loc' := [.ref 68, .int x1, .int x2, .int 0, xmk]) (st' := []) (by decide +kernel) (fun _ => rfl)).trans ?_
    rfl
theorem s219_23 {L : Nat} {mi : Nat → Nat → Int32} {ml : Nat → Nat → Int64} {d : Nat} {Q : Option Value → xM → Prop} {x1 x2 x3 : Int32} : X 219 23 [.ref 68, .int x1, .int x2, .int x3, xmk] [] (SH L, mi, ml, MR) d Q =
    if (x3 < 6) then (X 219 32 [.ref 68, .int x1, .int x2, .int x3, .int 0] [] (SH L, mi, ml, MR) d Q) else (X 219 87 [.ref 68, .int x1, .int x2, .int 0, .int 0] [] (SH L, mi, ml, MR) d Q) := by
  refine (R_pure0 (ins := .iload_n 3) (len := 1) (loc' := [.ref 68, .int x1, .int x2, .int x3, xmk]) (st' := [.int x3]) (by decide +kernel) (fun _ => rfl)).trans ?_
  refine (R_bipush (n := 6) (v := 6) (by decide +kernel) (by decide +kernel)).trans ?_
  refine (R_icmp_ge (off := 56) (t := 82) (by decide +kernel) (by decide +kernel)).trans (ite_congr rfl (fun c0 => ?_) (fun c0 => ?_))
  · refine (R_iconst (n := 0) (v := 0) (by decide +kernel) (by decide +kernel)).trans ?_
    refine (R_pure0 (ins := .istore 4) (len := 2) (loc' := [.ref 68, .int x1, .int x2, .int x3, .int 0]) (st' := []) (by decide +kernel) (fun _ => rfl)).trans ?_
    rfl
  · refine (R_iconst (n := 0) (v := 0) (by decide +kernel) (by decide +kernel)).trans ?_
    refine (R_pure0 (ins := .istore_n 3) (len := 1) (loc' := [.ref 68, .int x1, .int x2, .int 0, xmk]) (st' := []) (by decide +kernel) (fun _ => rfl)).trans ?_
    refine (R_iconst (n := 0) (v := 0) (by decide +kernel) (by decide +kernel)).trans ?_
    refine (R_pure0 (ins := .istore 4) (len := 2) (loc' := [.ref 68, .int x1, .int x2, .int 0, .int 0]) (st' := []) (by decide +kernel) (fun _ => rfl)).trans ?_
    rfl
theorem s219_32 {L : Nat} {mi : Nat → Nat → Int32} {ml : Nat → Nat → Int64} {d : Nat} {Q : Option Value → xM → Prop} {x1 x2 x3 x4 : Int32} : X 219 32 [.ref 68, .int x1, .int x2, .int x3, .int x4] [] (SH L, mi, ml, MR) (d + 1) Q =
    if (x4 < 10) then (Xm 179 [.int x3, .int x4, .int x1] (SH L, mi, ml, MR) d (fun v μ' => X 219 50 [.ref 68, .int x1, .int x2, .int x3, .int x4] (v.toList ++ [.ref 86]) μ' (d + 1) Q)) else (X 219 23 [.ref 68, .int x1, .int x2, .int (x3 + 1), .int x4] [] (SH L, mi, ml, MR) (d + 1) Q) := by
  refine (R_pure0 (ins := .iload 4) (len := 2) (loc' := [.ref 68, .int x1, .int x2, .int x3, .int x4]) (st' := [.int x4]) (by decide +kernel) (fun _ => rfl)).trans ?_
  refine (R_bipush (n := 10) (v := 10) (by decide +kernel) (by decide +kernel)).trans ?_
  refine (R_icmp_ge (off := 40) (t := 76) (by decide +kernel) (by decide +kernel)).trans (ite_congr rfl (fun c0 => ?_) (fun c0 => ?_))
  · refine (R_pure0 (ins := .aload_n 0) (len := 1) (loc' := [.ref 68, .int x1, .int x2, .int x3, .int x4]) (st' := [.ref 68]) (by decide +kernel) (fun _ => rfl)).trans ?_
    refine (R_gr (i := 66) (ci := 10) (k := 29) (n := 33) (b := 86) (by decide +kernel) (by decide +kernel) (by decide) rfl (SH_ref (by decide +kernel))).trans ?_
    refine (R_pure0 (ins := .iload_n 3) (len := 1) (loc' := [.ref 68, .int x1, .int x2, .int x3, .int x4]) (st' := [.int x3, .ref 86]) (by decide +kernel) (fun _ => rfl)).trans ?_
    refine (R_pure0 (ins := .iload 4) (len := 2) (loc' := [.ref 68, .int x1, .int x2, .int x3, .int x4]) (st' := [.int x4, .int x3, .ref 86]) (by decide +kernel) (fun _ => rfl)).trans ?_
    refine (R_pure0 (ins := .iload_n 1) (len := 1) (loc' := [.ref 68, .int x1, .int x2, .int x3, .int x4]) (st' := [.int x1, .int x4, .int x3, .ref 86]) (by decide +kernel) (fun _ => rfl)).trans ?_
    refine (R_static (i := 153) (f := 179) (kd := 2) (na := 3) (ml := 3) (As := [.int x3, .int x4, .int x1]) (rest := [.ref 86]) (by decide +kernel) (by decide +kernel) (by decide) (by decide +kernel) rfl rfl (by decide +kernel) (Nat.le_of_ble_eq_true rfl)).trans ?_
    rfl
  · refine (R_iinc (k := 3) (n := 1) (x := x3) (v := (x3 + 1)) (loc' := [.ref 68, .int x1, .int x2, .int (x3 + 1), .int x4]) (by decide +kernel) rfl rfl rfl).trans ?_
    refine (R_goto (off := (-56)) (t := 23) (by decide +kernel) (by decide +kernel)).trans ?_
    rfl
theorem s219_87 {L : Nat} {mi : Nat → Nat → Int32} {ml : Nat → Nat → Int64} {d : Nat} {Q : Option Value → xM → Prop} {x1 x2 x3 x4 : Int32} (h1 : (x4 < 10) → xin x4 10 = true) (h2 : (x4 < 10) → (x3 < (mi 86 x4.toNatClampNeg)) → xin x4 10 = true) : X 219 87 [.ref 68, .int x1, .int x2, .int x3, .int x4] [] (SH L, mi, ml, MR) d Q =
    if (x4 < 10) then (if (x3 < (mi 86 x4.toNatClampNeg)) then (X 219 87 [.ref 68, .int x1, .int x2, .int (mi 86 x4.toNatClampNeg), .int (x4 + 1)] [] (SH L, mi, ml, MR) d Q) else (X 219 87 [.ref 68, .int x1, .int x2, .int x3, .int (x4 + 1)] [] (SH L, mi, ml, MR) d Q)) else (Q (some (.int x3)) (SH L, mi, ml, MR)) := by
  refine (R_pure0 (ins := .iload 4) (len := 2) (loc' := [.ref 68, .int x1, .int x2, .int x3, .int x4]) (st' := [.int x4]) (by decide +kernel) (fun _ => rfl)).trans ?_
  refine (R_bipush (n := 10) (v := 10) (by decide +kernel) (by decide +kernel)).trans ?_
  refine (R_icmp_ge (off := 32) (t := 123) (by decide +kernel) (by decide +kernel)).trans (ite_congr rfl (fun c0 => ?_) (fun c0 => ?_))
  · refine (R_pure0 (ins := .aload_n 0) (len := 1) (loc' := [.ref 68, .int x1, .int x2, .int x3, .int x4]) (st' := [.ref 68]) (by decide +kernel) (fun _ => rfl)).trans ?_
    refine (R_gr (i := 66) (ci := 10) (k := 29) (n := 33) (b := 86) (by decide +kernel) (by decide +kernel) (by decide) rfl (SH_ref (by decide +kernel))).trans ?_
    refine (R_pure0 (ins := .iload 4) (len := 2) (loc' := [.ref 68, .int x1, .int x2, .int x3, .int x4]) (st' := [.int x4, .ref 86]) (by decide +kernel) (fun _ => rfl)).trans ?_
    refine (R_iaload (kd := 100) (n := 10) (by decide +kernel) rfl (by decide) (h1 c0)).trans ?_
    refine (R_pure0 (ins := .iload_n 3) (len := 1) (loc' := [.ref 68, .int x1, .int x2, .int x3, .int x4]) (st' := [.int x3, .int (mi 86 x4.toNatClampNeg)]) (by decide +kernel) (fun _ => rfl)).trans ?_
    refine (R_icmp_le (off := 13) (t := 115) (by decide +kernel) (by decide +kernel)).trans (ite_congr rfl (fun c1 => ?_) (fun c1 => ?_))
    · refine (R_pure0 (ins := .aload_n 0) (len := 1) (loc' := [.ref 68, .int x1, .int x2, .int x3, .int x4]) (st' := [.ref 68]) (by decide +kernel) (fun _ => rfl)).trans ?_
      refine (R_gr (i := 66) (ci := 10) (k := 29) (n := 33) (b := 86) (by decide +kernel) (by decide +kernel) (by decide) rfl (SH_ref (by decide +kernel))).trans ?_
      refine (R_pure0 (ins := .iload 4) (len := 2) (loc' := [.ref 68, .int x1, .int x2, .int x3, .int x4]) (st' := [.int x4, .ref 86]) (by decide +kernel) (fun _ => rfl)).trans ?_
      refine (R_iaload (kd := 100) (n := 10) (by decide +kernel) rfl (by decide) (h2 c0 c1)).trans ?_
      refine (R_goto (off := 4) (t := 116) (by decide +kernel) (by decide +kernel)).trans ?_
      refine (R_pure0 (ins := .istore_n 3) (len := 1) (loc' := [.ref 68, .int x1, .int x2, .int (mi 86 x4.toNatClampNeg), .int x4]) (st' := []) (by decide +kernel) (fun _ => rfl)).trans ?_
      refine (R_iinc (k := 4) (n := 1) (x := x4) (v := (x4 + 1)) (loc' := [.ref 68, .int x1, .int x2, .int (mi 86 x4.toNatClampNeg), .int (x4 + 1)]) (by decide +kernel) rfl rfl rfl).trans ?_
      refine (R_goto (off := (-33)) (t := 87) (by decide +kernel) (by decide +kernel)).trans ?_
      rfl
    · refine (R_pure0 (ins := .iload_n 3) (len := 1) (loc' := [.ref 68, .int x1, .int x2, .int x3, .int x4]) (st' := [.int x3]) (by decide +kernel) (fun _ => rfl)).trans ?_
      refine (R_pure0 (ins := .istore_n 3) (len := 1) (loc' := [.ref 68, .int x1, .int x2, .int x3, .int x4]) (st' := []) (by decide +kernel) (fun _ => rfl)).trans ?_
      refine (R_iinc (k := 4) (n := 1) (x := x4) (v := (x4 + 1)) (loc' := [.ref 68, .int x1, .int x2, .int x3, .int (x4 + 1)]) (by decide +kernel) rfl rfl rfl).trans ?_
      refine (R_goto (off := (-33)) (t := 87) (by decide +kernel) (by decide +kernel)).trans ?_
      rfl
  · refine (R_pure0 (ins := .iload_n 3) (len := 1) (loc' := [.ref 68, .int x1, .int x2, .int x3, .int x4]) (st' := [.int x3]) (by decide +kernel) (fun _ => rfl)).trans ?_
    exact R_ireturn (by decide +kernel) (by decide +kernel)
theorem s219_50 {L : Nat} {mi : Nat → Nat → Int32} {ml : Nat → Nat → Int64} {d : Nat} {Q : Option Value → xM → Prop} {x1 x2 x3 x4 y : Int32} (h1 : xin y 10 = true) : X 219 50 [.ref 68, .int x1, .int x2, .int x3, .int x4] [.int y, .ref 86] (SH L, mi, ml, MR) (d + 1) Q =
    Xm 216 [.ref 68, .int x3, .int x4, .int x2] (SH L, mi, ml, MR) d (fun v μ' => X 219 60 [.ref 68, .int x1, .int x2, .int x3, .int x4] (v.toList ++ [.int (mi 86 y.toNatClampNeg), .int y, .ref 86]) μ' (d + 1) Q) := by
  refine (R_pure0 (ins := .dup2) (len := 1) (loc' := [.ref 68, .int x1, .int x2, .int x3, .int x4]) (st' := [.int y, .ref 86, .int y, .ref 86]) (by decide +kernel) (fun _ => rfl)).trans ?_
  refine (R_iaload (kd := 100) (n := 10) (by decide +kernel) rfl (by decide) (h1)).trans ?_
  refine (R_pure0 (ins := .aload_n 0) (len := 1) (loc' := [.ref 68, .int x1, .int x2, .int x3, .int x4]) (st' := [.ref 68, .int (mi 86 y.toNatClampNeg), .int y, .ref 86]) (by decide +kernel) (fun _ => rfl)).trans ?_
  refine (R_pure0 (ins := .iload_n 3) (len := 1) (loc' := [.ref 68, .int x1, .int x2, .int x3, .int x4]) (st' := [.int x3, .ref 68, .int (mi 86 y.toNatClampNeg), .int y, .ref 86]) (by decide +kernel) (fun _ => rfl)).trans ?_
  refine (R_pure0 (ins := .iload 4) (len := 2) (loc' := [.ref 68, .int x1, .int x2, .int x3, .int x4]) (st' := [.int x4, .int x3, .ref 68, .int (mi 86 y.toNatClampNeg), .int y, .ref 86]) (by decide +kernel) (fun _ => rfl)).trans ?_
  refine (R_pure0 (ins := .iload_n 2) (len := 1) (loc' := [.ref 68, .int x1, .int x2, .int x3, .int x4]) (st' := [.int x2, .int x4, .int x3, .ref 68, .int (mi 86 y.toNatClampNeg), .int y, .ref 86]) (by decide +kernel) (fun _ => rfl)).trans ?_
  refine (R_virt (i := 259) (f := 216) (kd := 0) (na := 3) (ml := 6) (ci := 10) (n := 33) (b := 68) (As := [.int x3, .int x4, .int x2]) (rest := [.int (mi 86 y.toNatClampNeg), .int y, .ref 86]) (by decide +kernel) (by decide +kernel) (by decide) (by decide +kernel) rfl (by decide +kernel) rfl rfl (by decide +kernel) (Nat.le_of_ble_eq_true rfl)).trans ?_
  rfl
theorem s219_23v2 {L : Nat} {mi : Nat → Nat → Int32} {ml : Nat → Nat → Int64} {d : Nat} {Q : Option Value → xM → Prop} {x1 x2 x3 x4 : Int32} : X 219 23 [.ref 68, .int x1, .int x2, .int x3, .int x4] [] (SH L, mi, ml, MR) d Q =
    if (x3 < 6) then (X 219 32 [.ref 68, .int x1, .int x2, .int x3, .int 0] [] (SH L, mi, ml, MR) d Q) else (X 219 87 [.ref 68, .int x1, .int x2, .int 0, .int 0] [] (SH L, mi, ml, MR) d Q) := by
  refine (R_pure0 (ins := .iload_n 3) (len := 1) (loc' := [.ref 68, .int x1, .int x2, .int x3, .int x4]) (st' := [.int x3]) (by decide +kernel) (fun _ => rfl)).trans ?_
  refine (R_bipush (n := 6) (v := 6) (by decide +kernel) (by decide +kernel)).trans ?_
  refine (R_icmp_ge (off := 56) (t := 82) (by decide +kernel) (by decide +kernel)).trans (ite_congr rfl (fun c0 => ?_) (fun c0 => ?_))
  · refine (R_iconst (n := 0) (v := 0) (by decide +kernel) (by decide +kernel)).trans ?_
    refine (R_pure0 (ins := .istore 4) (len := 2) (loc' := [.ref 68, .int x1, .int x2, .int x3, .int 0]) (st' := []) (by decide +kernel) (fun _ => rfl)).trans ?_
    rfl
  · refine (R_iconst (n := 0) (v := 0) (by decide +kernel) (by decide +kernel)).trans ?_
    refine (R_pure0 (ins := .istore_n 3) (len := 1) (loc' := [.ref 68, .int x1, .int x2, .int 0, .int x4]) (st' := []) (by decide +kernel) (fun _ => rfl)).trans ?_
    refine (R_iconst (n := 0) (v := 0) (by decide +kernel) (by decide +kernel)).trans ?_
    refine (R_pure0 (ins := .istore 4) (len := 2) (loc' := [.ref 68, .int x1, .int x2, .int 0, .int 0]) (st' := []) (by decide +kernel) (fun _ => rfl)).trans ?_
    rfl
theorem s219_60 {L : Nat} {mi : Nat → Nat → Int32} {ml : Nat → Nat → Int64} {d : Nat} {Q : Option Value → xM → Prop} {x1 x2 x3 x4 y z0 z1 : Int32} (h1 : (y = 0) → xin z1 10 = true) (h2 : ¬ (y = 0) → xin z1 10 = true) : X 219 60 [.ref 68, .int x1, .int x2, .int x3, .int x4] [.int y, .int z0, .int z1, .ref 86] (SH L, mi, ml, MR) d Q =
    if (y = 0) then (X 219 32 [.ref 68, .int x1, .int x2, .int x3, .int (x4 + 1)] [] (SH L, (xw mi 86 z1.toNatClampNeg (z0 + 0)), ml, MR) d Q) else (X 219 32 [.ref 68, .int x1, .int x2, .int x3, .int (x4 + 1)] [] (SH L, (xw mi 86 z1.toNatClampNeg (z0 + 1)), ml, MR) d Q) := by
  refine (R_if_eq (off := 7) (t := 67) (by decide +kernel) (by decide +kernel)).trans (ite_congr rfl (fun c0 => ?_) (fun c0 => ?_))
  · refine (R_iconst (n := 0) (v := 0) (by decide +kernel) (by decide +kernel)).trans ?_
    refine (R_pure0 (ins := .iadd) (len := 1) (loc' := [.ref 68, .int x1, .int x2, .int x3, .int x4]) (st' := [.int (z0 + 0), .int z1, .ref 86]) (by decide +kernel) (fun _ => rfl)).trans ?_
    refine (R_iastore (n := 10) (by decide +kernel) rfl (h1 c0)).trans ?_
    refine (R_iinc (k := 4) (n := 1) (x := x4) (v := (x4 + 1)) (loc' := [.ref 68, .int x1, .int x2, .int x3, .int (x4 + 1)]) (by decide +kernel) rfl rfl rfl).trans ?_
    refine (R_goto (off := (-41)) (t := 32) (by decide +kernel) (by decide +kernel)).trans ?_
    rfl
  · refine (R_iconst (n := 1) (v := 1) (by decide +kernel) (by decide +kernel)).trans ?_
    refine (R_goto (off := 4) (t := 68) (by decide +kernel) (by decide +kernel)).trans ?_
    refine (R_pure0 (ins := .iadd) (len := 1) (loc' := [.ref 68, .int x1, .int x2, .int x3, .int x4]) (st' := [.int (z0 + 1), .int z1, .ref 86]) (by decide +kernel) (fun _ => rfl)).trans ?_
    refine (R_iastore (n := 10) (by decide +kernel) rfl (h2 c0)).trans ?_
    refine (R_iinc (k := 4) (n := 1) (x := x4) (v := (x4 + 1)) (loc' := [.ref 68, .int x1, .int x2, .int x3, .int (x4 + 1)]) (by decide +kernel) rfl rfl rfl).trans ?_
    refine (R_goto (off := (-41)) (t := 32) (by decide +kernel) (by decide +kernel)).trans ?_
    rfl
theorem s220 {L : Nat} {mi : Nat → Nat → Int32} {ml : Nat → Nat → Int64} {d : Nat} {Q : Option Value → xM → Prop} {x1 x2 x3 : Int32} : Xm 220 [.ref 68, .int x1, .int x2, .int x3] (SH L, mi, ml, MR) (d + 1) Q =
    Xm 172 [.ref 68, .int x1] (SH L, mi, ml, MR) d (fun v μ' => X 220 5 [.ref 68, .int x1, .int x2, .int x3, xmk, xmk, xmk, xmk] (v.toList ++ []) μ' (d + 1) Q) := by
  rw [Xm_ent (n := 8) (loc := [.ref 68, .int x1, .int x2, .int x3, xmk, xmk, xmk, xmk]) (by decide +kernel) rfl]
  refine (R_pure0 (ins := .aload_n 0) (len := 1) (loc' := [.ref 68, .int x1, .int x2, .int x3, xmk, xmk, xmk, xmk]) (st' := [.ref 68]) (by decide +kernel) (fun _ => rfl)).trans ?_
  refine (R_pure0 (ins := .iload_n 1) (len := 1) (loc' := [.ref 68, .int x1, .int x2, .int x3, xmk, xmk, xmk, xmk]) (st' := [.int x1, .ref 68]) (by decide +kernel) (fun _ => rfl)).trans ?_
  refine (R_virt (i := 169) (f := 172) (kd := 0) (na := 1) (ml := 2) (ci := 10) (n := 33) (b := 68) (As := [.int x1]) (rest := []) (by decide +kernel) (by decide +kernel) (by decide) (by decide +kernel) rfl (by decide +kernel) rfl rfl (by decide +kernel) (Nat.le_of_ble_eq_true rfl)).trans ?_
  rfl
theorem s220_5 {L : Nat} {mi : Nat → Nat → Int32} {ml : Nat → Nat → Int64} {d : Nat} {Q : Option Value → xM → Prop} {x1 x2 x3 y : Int32} : X 220 5 [.ref 68, .int x1, .int x2, .int x3, xmk, xmk, xmk, xmk] [.int y] (SH L, mi, ml, MR) (d + 1) Q =
    if (y = 0) then (Q (some (.int (-1))) (SH L, mi, ml, MR)) else (Xm 173 [.int x2] (SH L, mi, ml, MR) d (fun v μ' => X 220 12 [.ref 68, .int x1, .int x2, .int x3, xmk, xmk, xmk, xmk] (v.toList ++ []) μ' (d + 1) Q)) := by
  refine (R_if_eq (off := 17) (t := 22) (by decide +kernel) (by decide +kernel)).trans (ite_congr rfl (fun c0 => ?_) (fun c0 => ?_))
  · refine (R_iconst (n := (-1)) (v := (-1)) (by decide +kernel) (by decide +kernel)).trans ?_
    exact R_ireturn (by decide +kernel) (by decide +kernel)
  · refine (R_pure0 (ins := .iload_n 2) (len := 1) (loc' := [.ref 68, .int x1, .int x2, .int x3, xmk, xmk, xmk, xmk]) (st' := [.int x2]) (by decide +kernel) (fun _ => rfl)).trans ?_
    refine (R_static (i := 181) (f := 173) (kd := 2) (na := 1) (ml := 1) (As := [.int x2]) (rest := []) (by decide +kernel) (by decide +kernel) (by decide) (by decide +kernel) rfl rfl (by decide +kernel) (Nat.le_of_ble_eq_true rfl)).trans ?_
    rfl
theorem s220_12 {L : Nat} {mi : Nat → Nat → Int32} {ml : Nat → Nat → Int64} {d : Nat} {Q : Option Value → xM → Prop} {x1 x2 x3 y : Int32} : X 220 12 [.ref 68, .int x1, .int x2, .int x3, xmk, xmk, xmk, xmk] [.int y] (SH L, mi, ml, MR) (d + 1) Q =
    if (y = 0) then (Q (some (.int (-1))) (SH L, mi, ml, MR)) else (Xm 155 [.int x3] (SH L, mi, ml, MR) d (fun v μ' => X 220 19 [.ref 68, .int x1, .int x2, .int x3, xmk, xmk, xmk, xmk] (v.toList ++ []) μ' (d + 1) Q)) := by
  refine (R_if_eq (off := 10) (t := 22) (by decide +kernel) (by decide +kernel)).trans (ite_congr rfl (fun c0 => ?_) (fun c0 => ?_))
  · refine (R_iconst (n := (-1)) (v := (-1)) (by decide +kernel) (by decide +kernel)).trans ?_
    exact R_ireturn (by decide +kernel) (by decide +kernel)
  · refine (R_pure0 (ins := .iload_n 3) (len := 1) (loc' := [.ref 68, .int x1, .int x2, .int x3, xmk, xmk, xmk, xmk]) (st' := [.int x3]) (by decide +kernel) (fun _ => rfl)).trans ?_
    refine (R_static (i := 93) (f := 155) (kd := 2) (na := 1) (ml := 1) (As := [.int x3]) (rest := []) (by decide +kernel) (by decide +kernel) (by decide) (by decide +kernel) rfl rfl (by decide +kernel) (Nat.le_of_ble_eq_true rfl)).trans ?_
    rfl
theorem s220_19 {L : Nat} {mi : Nat → Nat → Int32} {ml : Nat → Nat → Int64} {d : Nat} {Q : Option Value → xM → Prop} {x1 x2 x3 y : Int32} : X 220 19 [.ref 68, .int x1, .int x2, .int x3, xmk, xmk, xmk, xmk] [.int y] (SH L, mi, ml, MR) (d + 1) Q =
    if (y = 0) then (Q (some (.int (-1))) (SH L, mi, ml, MR)) else (Xm 215 [.ref 68, .int x3] (SH L, mi, ml, MR) d (fun v μ' => X 220 29 [.ref 68, .int x1, .int x2, .int x3, xmk, xmk, xmk, xmk] (v.toList ++ []) μ' (d + 1) Q)) := by
  refine (R_if_ne (off := 5) (t := 24) (by decide +kernel) (by decide +kernel)).trans (ite_congr rfl (fun c0 => ?_) (fun c0 => ?_))
  · refine (R_iconst (n := (-1)) (v := (-1)) (by decide +kernel) (by decide +kernel)).trans ?_
    exact R_ireturn (by decide +kernel) (by decide +kernel)
  · refine (R_pure0 (ins := .aload_n 0) (len := 1) (loc' := [.ref 68, .int x1, .int x2, .int x3, xmk, xmk, xmk, xmk]) (st' := [.ref 68]) (by decide +kernel) (fun _ => rfl)).trans ?_
    refine (R_pure0 (ins := .iload_n 3) (len := 1) (loc' := [.ref 68, .int x1, .int x2, .int x3, xmk, xmk, xmk, xmk]) (st' := [.int x3, .ref 68]) (by decide +kernel) (fun _ => rfl)).trans ?_
    refine (R_virt (i := 256) (f := 215) (kd := 0) (na := 1) (ml := 4) (ci := 10) (n := 33) (b := 68) (As := [.int x3]) (rest := []) (by decide +kernel) (by decide +kernel) (by decide) (by decide +kernel) rfl (by decide +kernel) rfl rfl (by decide +kernel) (Nat.le_of_ble_eq_true rfl)).trans ?_
    rfl
theorem s220_29 {L : Nat} {mi : Nat → Nat → Int32} {ml : Nat → Nat → Int64} {d : Nat} {Q : Option Value → xM → Prop} {x1 x2 x3 y : Int32} : X 220 29 [.ref 68, .int x1, .int x2, .int x3, xmk, xmk, xmk, xmk] [.int y] (SH L, mi, ml, MR) (d + 1) Q =
    if (y = 0) then (Xm 219 [.ref 68, .int x2, .int x3] (SH L, mi, ml, MR) d (fun v μ' => X 220 49 [.ref 68, .int x1, .int x2, .int x3, .int y, xmk, xmk, xmk] (v.toList ++ []) μ' (d + 1) Q)) else (Xm 152 [.ref 68, .int y] (SH L, mi, ml, MR) d (fun v μ' => X 220 42 [.ref 68, .int x1, .int x2, .int x3, .int y, xmk, xmk, xmk] (v.toList ++ []) μ' (d + 1) Q)) := by
  refine (R_pure0 (ins := .istore 4) (len := 2) (loc' := [.ref 68, .int x1, .int x2, .int x3, .int y, xmk, xmk, xmk]) (st' := []) (by decide +kernel) (fun _ => rfl)).trans ?_
  refine (R_pure0 (ins := .iload 4) (len := 2) (loc' := [.ref 68, .int x1, .int x2, .int x3, .int y, xmk, xmk, xmk]) (st' := [.int y]) (by decide +kernel) (fun _ => rfl)).trans ?_
  refine (R_if_eq (off := 10) (t := 43) (by decide +kernel) (by decide +kernel)).trans (ite_congr rfl (fun c0 => ?_) (fun c0 => ?_))
  · refine (R_pure0 (ins := .aload_n 0) (len := 1) (loc' := [.ref 68, .int x1, .int x2, .int x3, .int y, xmk, xmk, xmk]) (st' := [.ref 68]) (by decide +kernel) (fun _ => rfl)).trans ?_
    refine (R_pure0 (ins := .iload_n 2) (len := 1) (loc' := [.ref 68, .int x1, .int x2, .int x3, .int y, xmk, xmk, xmk]) (st' := [.int x2, .ref 68]) (by decide +kernel) (fun _ => rfl)).trans ?_
    refine (R_pure0 (ins := .iload_n 3) (len := 1) (loc' := [.ref 68, .int x1, .int x2, .int x3, .int y, xmk, xmk, xmk]) (st' := [.int x3, .int x2, .ref 68]) (by decide +kernel) (fun _ => rfl)).trans ?_
    refine (R_virt (i := 263) (f := 219) (kd := 0) (na := 2) (ml := 5) (ci := 10) (n := 33) (b := 68) (As := [.int x2, .int x3]) (rest := []) (by decide +kernel) (by decide +kernel) (by decide) (by decide +kernel) rfl (by decide +kernel) rfl rfl (by decide +kernel) (Nat.le_of_ble_eq_true rfl)).trans ?_
    rfl
  · refine (R_pure0 (ins := .aload_n 0) (len := 1) (loc' := [.ref 68, .int x1, .int x2, .int x3, .int y, xmk, xmk, xmk]) (st' := [.ref 68]) (by decide +kernel) (fun _ => rfl)).trans ?_
    refine (R_pure0 (ins := .iload 4) (len := 2) (loc' := [.ref 68, .int x1, .int x2, .int x3, .int y, xmk, xmk, xmk]) (st' := [.int y, .ref 68]) (by decide +kernel) (fun _ => rfl)).trans ?_
    refine (R_virt (i := 97) (f := 152) (kd := 0) (na := 1) (ml := 2) (ci := 10) (n := 33) (b := 68) (As := [.int y]) (rest := []) (by decide +kernel) (by decide +kernel) (by decide) (by decide +kernel) rfl (by decide +kernel) rfl rfl (by decide +kernel) (Nat.le_of_ble_eq_true rfl)).trans ?_
    rfl
theorem s220_49 {L : Nat} {mi : Nat → Nat → Int32} {ml : Nat → Nat → Int64} {d : Nat} {Q : Option Value → xM → Prop} {x1 x2 x3 x4 y : Int32} : X 220 49 [.ref 68, .int x1, .int x2, .int x3, .int x4, xmk, xmk, xmk] [.int y] (SH L, mi, ml, MR) d Q =
    X 220 57 [.ref 68, .int x1, .int x2, .int x3, .int x4, .int y, .int 0, .int 0] [] (SH L, mi, ml, MR) d Q := by
  refine (R_pure0 (ins := .istore 5) (len := 2) (loc' := [.ref 68, .int x1, .int x2, .int x3, .int x4, .int y, xmk, xmk]) (st' := []) (by decide +kernel) (fun _ => rfl)).trans ?_
  refine (R_iconst (n := 0) (v := 0) (by decide +kernel) (by decide +kernel)).trans ?_
  refine (R_pure0 (ins := .istore 6) (len := 2) (loc' := [.ref 68, .int x1, .int x2, .int x3, .int x4, .int y, .int 0, xmk]) (st' := []) (by decide +kernel) (fun _ => rfl)).trans ?_
  refine (R_iconst (n := 0) (v := 0) (by decide +kernel) (by decide +kernel)).trans ?_
  refine (R_pure0 (ins := .istore 7) (len := 2) (loc' := [.ref 68, .int x1, .int x2, .int x3, .int x4, .int y, .int 0, .int 0]) (st' := []) (by decide +kernel) (fun _ => rfl)).trans ?_
  rfl
theorem s220_42 {L : Nat} {mi : Nat → Nat → Int32} {ml : Nat → Nat → Int64} {d : Nat} {Q : Option Value → xM → Prop} {x1 x2 x3 x4 y : Int32} : X 220 42 [.ref 68, .int x1, .int x2, .int x3, .int x4, xmk, xmk, xmk] [.int y] (SH L, mi, ml, MR) d Q =
    Q (some (.int y)) (SH L, mi, ml, MR) := by
  exact R_ireturn (by decide +kernel) (by decide +kernel)
theorem s220_57 {L : Nat} {mi : Nat → Nat → Int32} {ml : Nat → Nat → Int64} {d : Nat} {Q : Option Value → xM → Prop} {x1 x2 x3 x4 x5 x6 x7 : Int32} (h1 : (x7 < 10) → xin x7 10 = true) : X 220 57 [.ref 68, .int x1, .int x2, .int x3, .int x4, .int x5, .int x6, .int x7] [] (SH L, mi, ml, MR) d Q =
    if (x7 < 10) then (if ((0 : Int32) < (mi 86 x7.toNatClampNeg)) then (X 220 57 [.ref 68, .int x1, .int x2, .int x3, .int x4, .int x5, .int (x6 ||| (1 <<< (x7 &&& 31))), .int (x7 + 1)] [] (SH L, mi, ml, MR) d Q) else (X 220 57 [.ref 68, .int x1, .int x2, .int x3, .int x4, .int x5, .int (x6 ||| 0), .int (x7 + 1)] [] (SH L, mi, ml, MR) d Q)) else (Q (some (.int x6)) (SH L, mi, ml, MR)) := by
  refine (R_pure0 (ins := .iload 7) (len := 2) (loc' := [.ref 68, .int x1, .int x2, .int x3, .int x4, .int x5, .int x6, .int x7]) (st' := [.int x7]) (by decide +kernel) (fun _ => rfl)).trans ?_
  refine (R_bipush (n := 10) (v := 10) (by decide +kernel) (by decide +kernel)).trans ?_
  refine (R_icmp_ge (off := 32) (t := 93) (by decide +kernel) (by decide +kernel)).trans (ite_congr rfl (fun c0 => ?_) (fun c0 => ?_))
  · refine (R_pure0 (ins := .iload 6) (len := 2) (loc' := [.ref 68, .int x1, .int x2, .int x3, .int x4, .int x5, .int x6, .int x7]) (st' := [.int x6]) (by decide +kernel) (fun _ => rfl)).trans ?_
    refine (R_pure0 (ins := .aload_n 0) (len := 1) (loc' := [.ref 68, .int x1, .int x2, .int x3, .int x4, .int x5, .int x6, .int x7]) (st' := [.ref 68, .int x6]) (by decide +kernel) (fun _ => rfl)).trans ?_
    refine (R_gr (i := 66) (ci := 10) (k := 29) (n := 33) (b := 86) (by decide +kernel) (by decide +kernel) (by decide) rfl (SH_ref (by decide +kernel))).trans ?_
    refine (R_pure0 (ins := .iload 7) (len := 2) (loc' := [.ref 68, .int x1, .int x2, .int x3, .int x4, .int x5, .int x6, .int x7]) (st' := [.int x7, .ref 86, .int x6]) (by decide +kernel) (fun _ => rfl)).trans ?_
    refine (R_iaload (kd := 100) (n := 10) (by decide +kernel) rfl (by decide) (h1 c0)).trans ?_
    refine (R_if_le (off := 10) (t := 83) (by decide +kernel) (by decide +kernel)).trans (ite_congr rfl (fun c1 => ?_) (fun c1 => ?_))
    · refine (R_iconst (n := 1) (v := 1) (by decide +kernel) (by decide +kernel)).trans ?_
      refine (R_pure0 (ins := .iload 7) (len := 2) (loc' := [.ref 68, .int x1, .int x2, .int x3, .int x4, .int x5, .int x6, .int x7]) (st' := [.int x7, .int 1, .int x6]) (by decide +kernel) (fun _ => rfl)).trans ?_
      refine (R_pure0 (ins := .ishl) (len := 1) (loc' := [.ref 68, .int x1, .int x2, .int x3, .int x4, .int x5, .int x6, .int x7]) (st' := [.int (1 <<< (x7 &&& 31)), .int x6]) (by decide +kernel) (fun _ => rfl)).trans ?_
      refine (R_goto (off := 4) (t := 84) (by decide +kernel) (by decide +kernel)).trans ?_
      refine (R_pure0 (ins := .ior) (len := 1) (loc' := [.ref 68, .int x1, .int x2, .int x3, .int x4, .int x5, .int x6, .int x7]) (st' := [.int (x6 ||| (1 <<< (x7 &&& 31)))]) (by decide +kernel) (fun _ => rfl)).trans ?_
      refine (R_pure0 (ins := .istore 6) (len := 2) (loc' := [.ref 68, .int x1, .int x2, .int x3, .int x4, .int x5, .int (x6 ||| (1 <<< (x7 &&& 31))), .int x7]) (st' := []) (by decide +kernel) (fun _ => rfl)).trans ?_
      refine (R_iinc (k := 7) (n := 1) (x := x7) (v := (x7 + 1)) (loc' := [.ref 68, .int x1, .int x2, .int x3, .int x4, .int x5, .int (x6 ||| (1 <<< (x7 &&& 31))), .int (x7 + 1)]) (by decide +kernel) rfl rfl rfl).trans ?_
      refine (R_goto (off := (-33)) (t := 57) (by decide +kernel) (by decide +kernel)).trans ?_
      rfl
    · refine (R_iconst (n := 0) (v := 0) (by decide +kernel) (by decide +kernel)).trans ?_
      refine (R_pure0 (ins := .ior) (len := 1) (loc' := [.ref 68, .int x1, .int x2, .int x3, .int x4, .int x5, .int x6, .int x7]) (st' := [.int (x6 ||| 0)]) (by decide +kernel) (fun _ => rfl)).trans ?_
      refine (R_pure0 (ins := .istore 6) (len := 2) (loc' := [.ref 68, .int x1, .int x2, .int x3, .int x4, .int x5, .int (x6 ||| 0), .int x7]) (st' := []) (by decide +kernel) (fun _ => rfl)).trans ?_
      refine (R_iinc (k := 7) (n := 1) (x := x7) (v := (x7 + 1)) (loc' := [.ref 68, .int x1, .int x2, .int x3, .int x4, .int x5, .int (x6 ||| 0), .int (x7 + 1)]) (by decide +kernel) rfl rfl rfl).trans ?_
      refine (R_goto (off := (-33)) (t := 57) (by decide +kernel) (by decide +kernel)).trans ?_
      rfl
  · refine (R_pure0 (ins := .iload 6) (len := 2) (loc' := [.ref 68, .int x1, .int x2, .int x3, .int x4, .int x5, .int x6, .int x7]) (st' := [.int x6]) (by decide +kernel) (fun _ => rfl)).trans ?_
    exact R_ireturn (by decide +kernel) (by decide +kernel)
theorem s221 {L : Nat} {mi : Nat → Nat → Int32} {ml : Nat → Nat → Int64} {d : Nat} {Q : Option Value → xM → Prop} {x1 x2 : Int32} : Xm 221 [.ref 68, .int x1, .int x2] (SH L, mi, ml, MR) (d + 1) Q =
    Xm 172 [.ref 68, .int x1] (SH L, mi, ml, MR) d (fun v μ' => X 221 5 [.ref 68, .int x1, .int x2, xmk, xmk, xmk, xmk, xmk] (v.toList ++ []) μ' (d + 1) Q) := by
  rw [Xm_ent (n := 8) (loc := [.ref 68, .int x1, .int x2, xmk, xmk, xmk, xmk, xmk]) (by decide +kernel) rfl]
  refine (R_pure0 (ins := .aload_n 0) (len := 1) (loc' := [.ref 68, .int x1, .int x2, xmk, xmk, xmk, xmk, xmk]) (st' := [.ref 68]) (by decide +kernel) (fun _ => rfl)).trans ?_
  refine (R_pure0 (ins := .iload_n 1) (len := 1) (loc' := [.ref 68, .int x1, .int x2, xmk, xmk, xmk, xmk, xmk]) (st' := [.int x1, .ref 68]) (by decide +kernel) (fun _ => rfl)).trans ?_
  refine (R_virt (i := 169) (f := 172) (kd := 0) (na := 1) (ml := 2) (ci := 10) (n := 33) (b := 68) (As := [.int x1]) (rest := []) (by decide +kernel) (by decide +kernel) (by decide) (by decide +kernel) rfl (by decide +kernel) rfl rfl (by decide +kernel) (Nat.le_of_ble_eq_true rfl)).trans ?_
  rfl
theorem s221_5 {L : Nat} {mi : Nat → Nat → Int32} {ml : Nat → Nat → Int64} {d : Nat} {Q : Option Value → xM → Prop} {x1 x2 y : Int32} : X 221 5 [.ref 68, .int x1, .int x2, xmk, xmk, xmk, xmk, xmk] [.int y] (SH L, mi, ml, MR) (d + 1) Q =
    if (y = 0) then (Q (some (.int (-1))) (SH L, mi, ml, MR)) else (Xm 155 [.int x2] (SH L, mi, ml, MR) d (fun v μ' => X 221 12 [.ref 68, .int x1, .int x2, xmk, xmk, xmk, xmk, xmk] (v.toList ++ []) μ' (d + 1) Q)) := by
  refine (R_if_eq (off := 10) (t := 15) (by decide +kernel) (by decide +kernel)).trans (ite_congr rfl (fun c0 => ?_) (fun c0 => ?_))
  · refine (R_iconst (n := (-1)) (v := (-1)) (by decide +kernel) (by decide +kernel)).trans ?_
    exact R_ireturn (by decide +kernel) (by decide +kernel)
  · refine (R_pure0 (ins := .iload_n 2) (len := 1) (loc' := [.ref 68, .int x1, .int x2, xmk, xmk, xmk, xmk, xmk]) (st' := [.int x2]) (by decide +kernel) (fun _ => rfl)).trans ?_
    refine (R_static (i := 93) (f := 155) (kd := 2) (na := 1) (ml := 1) (As := [.int x2]) (rest := []) (by decide +kernel) (by decide +kernel) (by decide) (by decide +kernel) rfl rfl (by decide +kernel) (Nat.le_of_ble_eq_true rfl)).trans ?_
    rfl
theorem s221_12 {L : Nat} {mi : Nat → Nat → Int32} {ml : Nat → Nat → Int64} {d : Nat} {Q : Option Value → xM → Prop} {x1 x2 y : Int32} : X 221 12 [.ref 68, .int x1, .int x2, xmk, xmk, xmk, xmk, xmk] [.int y] (SH L, mi, ml, MR) (d + 1) Q =
    if (y = 0) then (Q (some (.int (-1))) (SH L, mi, ml, MR)) else (Xm 215 [.ref 68, .int x2] (SH L, mi, ml, MR) d (fun v μ' => X 221 22 [.ref 68, .int x1, .int x2, xmk, xmk, xmk, xmk, xmk] (v.toList ++ []) μ' (d + 1) Q)) := by
  refine (R_if_ne (off := 5) (t := 17) (by decide +kernel) (by decide +kernel)).trans (ite_congr rfl (fun c0 => ?_) (fun c0 => ?_))
  · refine (R_iconst (n := (-1)) (v := (-1)) (by decide +kernel) (by decide +kernel)).trans ?_
    exact R_ireturn (by decide +kernel) (by decide +kernel)
  · refine (R_pure0 (ins := .aload_n 0) (len := 1) (loc' := [.ref 68, .int x1, .int x2, xmk, xmk, xmk, xmk, xmk]) (st' := [.ref 68]) (by decide +kernel) (fun _ => rfl)).trans ?_
    refine (R_pure0 (ins := .iload_n 2) (len := 1) (loc' := [.ref 68, .int x1, .int x2, xmk, xmk, xmk, xmk, xmk]) (st' := [.int x2, .ref 68]) (by decide +kernel) (fun _ => rfl)).trans ?_
    refine (R_virt (i := 256) (f := 215) (kd := 0) (na := 1) (ml := 4) (ci := 10) (n := 33) (b := 68) (As := [.int x2]) (rest := []) (by decide +kernel) (by decide +kernel) (by decide) (by decide +kernel) rfl (by decide +kernel) rfl rfl (by decide +kernel) (Nat.le_of_ble_eq_true rfl)).trans ?_
    rfl
theorem s221_22 {L : Nat} {mi : Nat → Nat → Int32} {ml : Nat → Nat → Int64} {d : Nat} {Q : Option Value → xM → Prop} {x1 x2 y : Int32} : X 221 22 [.ref 68, .int x1, .int x2, xmk, xmk, xmk, xmk, xmk] [.int y] (SH L, mi, ml, MR) (d + 1) Q =
    if (y = 0) then (X 221 44 [.ref 68, .int x1, .int x2, .int y, .int (-9), .int 1000000, .int 0, xmk] [] (SH L, mi, ml, MR) (d + 1) Q) else (Xm 152 [.ref 68, .int y] (SH L, mi, ml, MR) d (fun v μ' => X 221 32 [.ref 68, .int x1, .int x2, .int y, xmk, xmk, xmk, xmk] (v.toList ++ []) μ' (d + 1) Q)) := by
  refine (R_pure0 (ins := .istore_n 3) (len := 1) (loc' := [.ref 68, .int x1, .int x2, .int y, xmk, xmk, xmk, xmk]) (st' := []) (by decide +kernel) (fun _ => rfl)).trans ?_
  refine (R_pure0 (ins := .iload_n 3) (len := 1) (loc' := [.ref 68, .int x1, .int x2, .int y, xmk, xmk, xmk, xmk]) (st' := [.int y]) (by decide +kernel) (fun _ => rfl)).trans ?_
  refine (R_if_eq (off := 9) (t := 33) (by decide +kernel) (by decide +kernel)).trans (ite_congr rfl (fun c0 => ?_) (fun c0 => ?_))
  · refine (R_bipush (n := (-9)) (v := (-9)) (by decide +kernel) (by decide +kernel)).trans ?_
    refine (R_pure0 (ins := .istore 4) (len := 2) (loc' := [.ref 68, .int x1, .int x2, .int y, .int (-9), xmk, xmk, xmk]) (st' := []) (by decide +kernel) (fun _ => rfl)).trans ?_
    refine (R_ldc (i := 218) (v := 1000000) (by decide +kernel) (by decide +kernel)).trans ?_
    refine (R_pure0 (ins := .istore 5) (len := 2) (loc' := [.ref 68, .int x1, .int x2, .int y, .int (-9), .int 1000000, xmk, xmk]) (st' := []) (by decide +kernel) (fun _ => rfl)).trans ?_
    refine (R_iconst (n := 0) (v := 0) (by decide +kernel) (by decide +kernel)).trans ?_
    refine (R_pure0 (ins := .istore 6) (len := 2) (loc' := [.ref 68, .int x1, .int x2, .int y, .int (-9), .int 1000000, .int 0, xmk]) (st' := []) (by decide +kernel) (fun _ => rfl)).trans ?_
    rfl
  · refine (R_pure0 (ins := .aload_n 0) (len := 1) (loc' := [.ref 68, .int x1, .int x2, .int y, xmk, xmk, xmk, xmk]) (st' := [.ref 68]) (by decide +kernel) (fun _ => rfl)).trans ?_
    refine (R_pure0 (ins := .iload_n 3) (len := 1) (loc' := [.ref 68, .int x1, .int x2, .int y, xmk, xmk, xmk, xmk]) (st' := [.int y, .ref 68]) (by decide +kernel) (fun _ => rfl)).trans ?_
    refine (R_virt (i := 97) (f := 152) (kd := 0) (na := 1) (ml := 2) (ci := 10) (n := 33) (b := 68) (As := [.int y]) (rest := []) (by decide +kernel) (by decide +kernel) (by decide) (by decide +kernel) rfl (by decide +kernel) rfl rfl (by decide +kernel) (Nat.le_of_ble_eq_true rfl)).trans ?_
    rfl
theorem s221_44 {L : Nat} {mi : Nat → Nat → Int32} {ml : Nat → Nat → Int64} {d : Nat} {Q : Option Value → xM → Prop} {x1 x2 x3 x4 x5 x6 : Int32} : X 221 44 [.ref 68, .int x1, .int x2, .int x3, .int x4, .int x5, .int x6, xmk] [] (SH L, mi, ml, MR) (d + 1) Q =
    if (x6 < 9) then (Xm 219 [.ref 68, .int x6, .int x2] (SH L, mi, ml, MR) d (fun v μ' => X 221 58 [.ref 68, .int x1, .int x2, .int x3, .int x4, .int x5, .int x6, xmk] (v.toList ++ []) μ' (d + 1) Q)) else (Xm 154 [.ref 68, .int x4, .int x5] (SH L, mi, ml, MR) d (fun v μ' => X 221 114 [.ref 68, .int x1, .int x2, .int x3, .int x4, .int x5, .int x6, xmk] (v.toList ++ []) μ' (d + 1) Q)) := by
  refine (R_pure0 (ins := .iload 6) (len := 2) (loc' := [.ref 68, .int x1, .int x2, .int x3, .int x4, .int x5, .int x6, xmk]) (st' := [.int x6]) (by decide +kernel) (fun _ => rfl)).trans ?_
  refine (R_bipush (n := 9) (v := 9) (by decide +kernel) (by decide +kernel)).trans ?_
  refine (R_icmp_ge (off := 58) (t := 106) (by decide +kernel) (by decide +kernel)).trans (ite_congr rfl (fun c0 => ?_) (fun c0 => ?_))
  · refine (R_pure0 (ins := .aload_n 0) (len := 1) (loc' := [.ref 68, .int x1, .int x2, .int x3, .int x4, .int x5, .int x6, xmk]) (st' := [.ref 68]) (by decide +kernel) (fun _ => rfl)).trans ?_
    refine (R_pure0 (ins := .iload 6) (len := 2) (loc' := [.ref 68, .int x1, .int x2, .int x3, .int x4, .int x5, .int x6, xmk]) (st' := [.int x6, .ref 68]) (by decide +kernel) (fun _ => rfl)).trans ?_
    refine (R_pure0 (ins := .iload_n 2) (len := 1) (loc' := [.ref 68, .int x1, .int x2, .int x3, .int x4, .int x5, .int x6, xmk]) (st' := [.int x2, .int x6, .ref 68]) (by decide +kernel) (fun _ => rfl)).trans ?_
    refine (R_virt (i := 263) (f := 219) (kd := 0) (na := 2) (ml := 5) (ci := 10) (n := 33) (b := 68) (As := [.int x6, .int x2]) (rest := []) (by decide +kernel) (by decide +kernel) (by decide) (by decide +kernel) rfl (by decide +kernel) rfl rfl (by decide +kernel) (Nat.le_of_ble_eq_true rfl)).trans ?_
    rfl
  · refine (R_pure0 (ins := .aload_n 0) (len := 1) (loc' := [.ref 68, .int x1, .int x2, .int x3, .int x4, .int x5, .int x6, xmk]) (st' := [.ref 68]) (by decide +kernel) (fun _ => rfl)).trans ?_
    refine (R_pure0 (ins := .iload 4) (len := 2) (loc' := [.ref 68, .int x1, .int x2, .int x3, .int x4, .int x5, .int x6, xmk]) (st' := [.int x4, .ref 68]) (by decide +kernel) (fun _ => rfl)).trans ?_
    refine (R_pure0 (ins := .iload 5) (len := 2) (loc' := [.ref 68, .int x1, .int x2, .int x3, .int x4, .int x5, .int x6, xmk]) (st' := [.int x5, .int x4, .ref 68]) (by decide +kernel) (fun _ => rfl)).trans ?_
    refine (R_virt (i := 215) (f := 154) (kd := 0) (na := 2) (ml := 3) (ci := 10) (n := 33) (b := 68) (As := [.int x4, .int x5]) (rest := []) (by decide +kernel) (by decide +kernel) (by decide) (by decide +kernel) rfl (by decide +kernel) rfl rfl (by decide +kernel) (Nat.le_of_ble_eq_true rfl)).trans ?_
    rfl
theorem s221_32 {L : Nat} {mi : Nat → Nat → Int32} {ml : Nat → Nat → Int64} {d : Nat} {Q : Option Value → xM → Prop} {x1 x2 x3 y : Int32} : X 221 32 [.ref 68, .int x1, .int x2, .int x3, xmk, xmk, xmk, xmk] [.int y] (SH L, mi, ml, MR) d Q =
    Q (some (.int y)) (SH L, mi, ml, MR) := by
  exact R_ireturn (by decide +kernel) (by decide +kernel)
theorem s221_58 {L : Nat} {mi : Nat → Nat → Int32} {ml : Nat → Nat → Int64} {d : Nat} {Q : Option Value → xM → Prop} {x1 x2 x3 x4 x5 x6 y : Int32} : X 221 58 [.ref 68, .int x1, .int x2, .int x3, .int x4, .int x5, .int x6, xmk] [.int y] (SH L, mi, ml, MR) d Q =
    if (y = 0) then (Q (some (.int (-9))) (SH L, mi, ml, MR)) else (if (y < x5) then (X 221 44 [.ref 68, .int x1, .int x2, .int x3, .int x6, .int y, .int (x6 + 1), .int y] [] (SH L, mi, ml, MR) d Q) else (X 221 44 [.ref 68, .int x1, .int x2, .int x3, .int x4, .int x5, .int (x6 + 1), .int y] [] (SH L, mi, ml, MR) d Q)) := by
  refine (R_pure0 (ins := .istore 7) (len := 2) (loc' := [.ref 68, .int x1, .int x2, .int x3, .int x4, .int x5, .int x6, .int y]) (st' := []) (by decide +kernel) (fun _ => rfl)).trans ?_
  refine (R_pure0 (ins := .iload 7) (len := 2) (loc' := [.ref 68, .int x1, .int x2, .int x3, .int x4, .int x5, .int x6, .int y]) (st' := [.int y]) (by decide +kernel) (fun _ => rfl)).trans ?_
  refine (R_if_ne (off := 6) (t := 68) (by decide +kernel) (by decide +kernel)).trans (ite_congr rfl (fun c0 => ?_) (fun c0 => ?_))
  · refine (R_bipush (n := (-9)) (v := (-9)) (by decide +kernel) (by decide +kernel)).trans ?_
    exact R_ireturn (by decide +kernel) (by decide +kernel)
  · refine (R_pure0 (ins := .iload 7) (len := 2) (loc' := [.ref 68, .int x1, .int x2, .int x3, .int x4, .int x5, .int x6, .int y]) (st' := [.int y]) (by decide +kernel) (fun _ => rfl)).trans ?_
    refine (R_pure0 (ins := .iload 5) (len := 2) (loc' := [.ref 68, .int x1, .int x2, .int x3, .int x4, .int x5, .int x6, .int y]) (st' := [.int x5, .int y]) (by decide +kernel) (fun _ => rfl)).trans ?_
    refine (R_icmp_ge (off := 8) (t := 80) (by decide +kernel) (by decide +kernel)).trans (ite_congr rfl (fun c1 => ?_) (fun c1 => ?_))
    · refine (R_pure0 (ins := .iload 6) (len := 2) (loc' := [.ref 68, .int x1, .int x2, .int x3, .int x4, .int x5, .int x6, .int y]) (st' := [.int x6]) (by decide +kernel) (fun _ => rfl)).trans ?_
      refine (R_goto (off := 5) (t := 82) (by decide +kernel) (by decide +kernel)).trans ?_
      refine (R_pure0 (ins := .istore 4) (len := 2) (loc' := [.ref 68, .int x1, .int x2, .int x3, .int x6, .int x5, .int x6, .int y]) (st' := []) (by decide +kernel) (fun _ => rfl)).trans ?_
      refine (R_pure0 (ins := .iload 7) (len := 2) (loc' := [.ref 68, .int x1, .int x2, .int x3, .int x6, .int x5, .int x6, .int y]) (st' := [.int y]) (by decide +kernel) (fun _ => rfl)).trans ?_
      refine (R_pure0 (ins := .iload 5) (len := 2) (loc' := [.ref 68, .int x1, .int x2, .int x3, .int x6, .int x5, .int x6, .int y]) (st' := [.int x5, .int y]) (by decide +kernel) (fun _ => rfl)).trans ?_
      refine (R_icmp_ge (off := 8) (t := 96) (by decide +kernel) (by decide +kernel)).trans ((if_pos c1).trans ?_)
      refine (R_pure0 (ins := .iload 7) (len := 2) (loc' := [.ref 68, .int x1, .int x2, .int x3, .int x6, .int x5, .int x6, .int y]) (st' := [.int y]) (by decide +kernel) (fun _ => rfl)).trans ?_
      refine (R_goto (off := 5) (t := 98) (by decide +kernel) (by decide +kernel)).trans ?_
      refine (R_pure0 (ins := .istore 5) (len := 2) (loc' := [.ref 68, .int x1, .int x2, .int x3, .int x6, .int y, .int x6, .int y]) (st' := []) (by decide +kernel) (fun _ => rfl)).trans ?_
      refine (R_iinc (k := 6) (n := 1) (x := x6) (v := (x6 + 1)) (loc' := [.ref 68, .int x1, .int x2, .int x3, .int x6, .int y, .int (x6 + 1), .int y]) (by decide +kernel) rfl rfl rfl).trans ?_
      refine (R_goto (off := (-59)) (t := 44) (by decide +kernel) (by decide +kernel)).trans ?_
      rfl
    · refine (R_pure0 (ins := .iload 4) (len := 2) (loc' := [.ref 68, .int x1, .int x2, .int x3, .int x4, .int x5, .int x6, .int y]) (st' := [.int x4]) (by decide +kernel) (fun _ => rfl)).trans ?_
      refine (R_pure0 (ins := .istore 4) (len := 2) (loc' := [.ref 68, .int x1, .int x2, .int x3, .int x4, .int x5, .int x6, .int y]) (st' := []) (by decide +kernel) (fun _ => rfl)).trans ?_
      refine (R_pure0 (ins := .iload 7) (len := 2) (loc' := [.ref 68, .int x1, .int x2, .int x3, .int x4, .int x5, .int x6, .int y]) (st' := [.int y]) (by decide +kernel) (fun _ => rfl)).trans ?_
      refine (R_pure0 (ins := .iload 5) (len := 2) (loc' := [.ref 68, .int x1, .int x2, .int x3, .int x4, .int x5, .int x6, .int y]) (st' := [.int x5, .int y]) (by decide +kernel) (fun _ => rfl)).trans ?_
      refine (R_icmp_ge (off := 8) (t := 96) (by decide +kernel) (by decide +kernel)).trans ((if_neg c1).trans ?_)
      refine (R_pure0 (ins := .iload 5) (len := 2) (loc' := [.ref 68, .int x1, .int x2, .int x3, .int x4, .int x5, .int x6, .int y]) (st' := [.int x5]) (by decide +kernel) (fun _ => rfl)).trans ?_
      refine (R_pure0 (ins := .istore 5) (len := 2) (loc' := [.ref 68, .int x1, .int x2, .int x3, .int x4, .int x5, .int x6, .int y]) (st' := []) (by decide +kernel) (fun _ => rfl)).trans ?_
      refine (R_iinc (k := 6) (n := 1) (x := x6) (v := (x6 + 1)) (loc' := [.ref 68, .int x1, .int x2, .int x3, .int x4, .int x5, .int (x6 + 1), .int y]) (by decide +kernel) rfl rfl rfl).trans ?_
      refine (R_goto (off := (-59)) (t := 44) (by decide +kernel) (by decide +kernel)).trans ?_
      rfl
theorem s221_114 {L : Nat} {mi : Nat → Nat → Int32} {ml : Nat → Nat → Int64} {d : Nat} {Q : Option Value → xM → Prop} {x1 x2 x3 x4 x5 x6 y : Int32} : X 221 114 [.ref 68, .int x1, .int x2, .int x3, .int x4, .int x5, .int x6, xmk] [.int y] (SH L, mi, ml, MR) d Q =
    Q (some (.int y)) (SH L, mi, ml, MR) := by
  exact R_ireturn (by decide +kernel) (by decide +kernel)
theorem s221_44v2 {L : Nat} {mi : Nat → Nat → Int32} {ml : Nat → Nat → Int64} {d : Nat} {Q : Option Value → xM → Prop} {x1 x2 x3 x4 x5 x6 x7 : Int32} : X 221 44 [.ref 68, .int x1, .int x2, .int x3, .int x4, .int x5, .int x6, .int x7] [] (SH L, mi, ml, MR) (d + 1) Q =
    if (x6 < 9) then (Xm 219 [.ref 68, .int x6, .int x2] (SH L, mi, ml, MR) d (fun v μ' => X 221 58 [.ref 68, .int x1, .int x2, .int x3, .int x4, .int x5, .int x6, .int x7] (v.toList ++ []) μ' (d + 1) Q)) else (Xm 154 [.ref 68, .int x4, .int x5] (SH L, mi, ml, MR) d (fun v μ' => X 221 114 [.ref 68, .int x1, .int x2, .int x3, .int x4, .int x5, .int x6, .int x7] (v.toList ++ []) μ' (d + 1) Q)) := by
  refine (R_pure0 (ins := .iload 6) (len := 2) (loc' := [.ref 68, .int x1, .int x2, .int x3, .int x4, .int x5, .int x6, .int x7]) (st' := [.int x6]) (by decide +kernel) (fun _ => rfl)).trans ?_
  refine (R_bipush (n := 9) (v := 9) (by decide +kernel) (by decide +kernel)).trans ?_
  refine (R_icmp_ge (off := 58) (t := 106) (by decide +kernel) (by decide +kernel)).trans (ite_congr rfl (fun c0 => ?_) (fun c0 => ?_))
  · refine (R_pure0 (ins := .aload_n 0) (len := 1) (loc' := [.ref 68, .int x1, .int x2, .int x3, .int x4, .int x5, .int x6, .int x7]) (st' := [.ref 68]) (by decide +kernel) (fun _ => rfl)).trans ?_
    refine (R_pure0 (ins := .iload 6) (len := 2) (loc' := [.ref 68, .int x1, .int x2, .int x3, .int x4, .int x5, .int x6, .int x7]) (st' := [.int x6, .ref 68]) (by decide +kernel) (fun _ => rfl)).trans ?_
    refine (R_pure0 (ins := .iload_n 2) (len := 1) (loc' := [.ref 68, .int x1, .int x2, .int x3, .int x4, .int x5, .int x6, .int x7]) (st' := [.int x2, .int x6, .ref 68]) (by decide +kernel) (fun _ => rfl)).trans ?_
    refine (R_virt (i := 263) (f := 219) (kd := 0) (na := 2) (ml := 5) (ci := 10) (n := 33) (b := 68) (As := [.int x6, .int x2]) (rest := []) (by decide +kernel) (by decide +kernel) (by decide) (by decide +kernel) rfl (by decide +kernel) rfl rfl (by decide +kernel) (Nat.le_of_ble_eq_true rfl)).trans ?_
    rfl
  · refine (R_pure0 (ins := .aload_n 0) (len := 1) (loc' := [.ref 68, .int x1, .int x2, .int x3, .int x4, .int x5, .int x6, .int x7]) (st' := [.ref 68]) (by decide +kernel) (fun _ => rfl)).trans ?_
    refine (R_pure0 (ins := .iload 4) (len := 2) (loc' := [.ref 68, .int x1, .int x2, .int x3, .int x4, .int x5, .int x6, .int x7]) (st' := [.int x4, .ref 68]) (by decide +kernel) (fun _ => rfl)).trans ?_
    refine (R_pure0 (ins := .iload 5) (len := 2) (loc' := [.ref 68, .int x1, .int x2, .int x3, .int x4, .int x5, .int x6, .int x7]) (st' := [.int x5, .int x4, .ref 68]) (by decide +kernel) (fun _ => rfl)).trans ?_
    refine (R_virt (i := 215) (f := 154) (kd := 0) (na := 2) (ml := 3) (ci := 10) (n := 33) (b := 68) (As := [.int x4, .int x5]) (rest := []) (by decide +kernel) (by decide +kernel) (by decide) (by decide +kernel) rfl (by decide +kernel) rfl rfl (by decide +kernel) (Nat.le_of_ble_eq_true rfl)).trans ?_
    rfl
theorem s221_58v2 {L : Nat} {mi : Nat → Nat → Int32} {ml : Nat → Nat → Int64} {d : Nat} {Q : Option Value → xM → Prop} {x1 x2 x3 x4 x5 x6 x7 y : Int32} : X 221 58 [.ref 68, .int x1, .int x2, .int x3, .int x4, .int x5, .int x6, .int x7] [.int y] (SH L, mi, ml, MR) d Q =
    if (y = 0) then (Q (some (.int (-9))) (SH L, mi, ml, MR)) else (if (y < x5) then (X 221 44 [.ref 68, .int x1, .int x2, .int x3, .int x6, .int y, .int (x6 + 1), .int y] [] (SH L, mi, ml, MR) d Q) else (X 221 44 [.ref 68, .int x1, .int x2, .int x3, .int x4, .int x5, .int (x6 + 1), .int y] [] (SH L, mi, ml, MR) d Q)) := by
  refine (R_pure0 (ins := .istore 7) (len := 2) (loc' := [.ref 68, .int x1, .int x2, .int x3, .int x4, .int x5, .int x6, .int y]) (st' := []) (by decide +kernel) (fun _ => rfl)).trans ?_
  refine (R_pure0 (ins := .iload 7) (len := 2) (loc' := [.ref 68, .int x1, .int x2, .int x3, .int x4, .int x5, .int x6, .int y]) (st' := [.int y]) (by decide +kernel) (fun _ => rfl)).trans ?_
  refine (R_if_ne (off := 6) (t := 68) (by decide +kernel) (by decide +kernel)).trans (ite_congr rfl (fun c0 => ?_) (fun c0 => ?_))
  · refine (R_bipush (n := (-9)) (v := (-9)) (by decide +kernel) (by decide +kernel)).trans ?_
    exact R_ireturn (by decide +kernel) (by decide +kernel)
  · refine (R_pure0 (ins := .iload 7) (len := 2) (loc' := [.ref 68, .int x1, .int x2, .int x3, .int x4, .int x5, .int x6, .int y]) (st' := [.int y]) (by decide +kernel) (fun _ => rfl)).trans ?_
    refine (R_pure0 (ins := .iload 5) (len := 2) (loc' := [.ref 68, .int x1, .int x2, .int x3, .int x4, .int x5, .int x6, .int y]) (st' := [.int x5, .int y]) (by decide +kernel) (fun _ => rfl)).trans ?_
    refine (R_icmp_ge (off := 8) (t := 80) (by decide +kernel) (by decide +kernel)).trans (ite_congr rfl (fun c1 => ?_) (fun c1 => ?_))
    · refine (R_pure0 (ins := .iload 6) (len := 2) (loc' := [.ref 68, .int x1, .int x2, .int x3, .int x4, .int x5, .int x6, .int y]) (st' := [.int x6]) (by decide +kernel) (fun _ => rfl)).trans ?_
      refine (R_goto (off := 5) (t := 82) (by decide +kernel) (by decide +kernel)).trans ?_
      refine (R_pure0 (ins := .istore 4) (len := 2) (loc' := [.ref 68, .int x1, .int x2, .int x3, .int x6, .int x5, .int x6, .int y]) (st' := []) (by decide +kernel) (fun _ => rfl)).trans ?_
      refine (R_pure0 (ins := .iload 7) (len := 2) (loc' := [.ref 68, .int x1, .int x2, .int x3, .int x6, .int x5, .int x6, .int y]) (st' := [.int y]) (by decide +kernel) (fun _ => rfl)).trans ?_
      refine (R_pure0 (ins := .iload 5) (len := 2) (loc' := [.ref 68, .int x1, .int x2, .int x3, .int x6, .int x5, .int x6, .int y]) (st' := [.int x5, .int y]) (by decide +kernel) (fun _ => rfl)).trans ?_
      refine (R_icmp_ge (off := 8) (t := 96) (by decide +kernel) (by decide +kernel)).trans ((if_pos c1).trans ?_)
      refine (R_pure0 (ins := .iload 7) (len := 2) (loc' := [.ref 68, .int x1, .int x2, .int x3, .int x6, .int x5, .int x6, .int y]) (st' := [.int y]) (by decide +kernel) (fun _ => rfl)).trans ?_
      refine (R_goto (off := 5) (t := 98) (by decide +kernel) (by decide +kernel)).trans ?_
      refine (R_pure0 (ins := .istore 5) (len := 2) (loc' := [.ref 68, .int x1, .int x2, .int x3, .int x6, .int y, .int x6, .int y]) (st' := []) (by decide +kernel) (fun _ => rfl)).trans ?_
      refine (R_iinc (k := 6) (n := 1) (x := x6) (v := (x6 + 1)) (loc' := [.ref 68, .int x1, .int x2, .int x3, .int x6, .int y, .int (x6 + 1), .int y]) (by decide +kernel) rfl rfl rfl).trans ?_
      refine (R_goto (off := (-59)) (t := 44) (by decide +kernel) (by decide +kernel)).trans ?_
      rfl
    · refine (R_pure0 (ins := .iload 4) (len := 2) (loc' := [.ref 68, .int x1, .int x2, .int x3, .int x4, .int x5, .int x6, .int y]) (st' := [.int x4]) (by decide +kernel) (fun _ => rfl)).trans ?_
      refine (R_pure0 (ins := .istore 4) (len := 2) (loc' := [.ref 68, .int x1, .int x2, .int x3, .int x4, .int x5, .int x6, .int y]) (st' := []) (by decide +kernel) (fun _ => rfl)).trans ?_
      refine (R_pure0 (ins := .iload 7) (len := 2) (loc' := [.ref 68, .int x1, .int x2, .int x3, .int x4, .int x5, .int x6, .int y]) (st' := [.int y]) (by decide +kernel) (fun _ => rfl)).trans ?_
      refine (R_pure0 (ins := .iload 5) (len := 2) (loc' := [.ref 68, .int x1, .int x2, .int x3, .int x4, .int x5, .int x6, .int y]) (st' := [.int x5, .int y]) (by decide +kernel) (fun _ => rfl)).trans ?_
      refine (R_icmp_ge (off := 8) (t := 96) (by decide +kernel) (by decide +kernel)).trans ((if_neg c1).trans ?_)
      refine (R_pure0 (ins := .iload 5) (len := 2) (loc' := [.ref 68, .int x1, .int x2, .int x3, .int x4, .int x5, .int x6, .int y]) (st' := [.int x5]) (by decide +kernel) (fun _ => rfl)).trans ?_
      refine (R_pure0 (ins := .istore 5) (len := 2) (loc' := [.ref 68, .int x1, .int x2, .int x3, .int x4, .int x5, .int x6, .int y]) (st' := []) (by decide +kernel) (fun _ => rfl)).trans ?_
      refine (R_iinc (k := 6) (n := 1) (x := x6) (v := (x6 + 1)) (loc' := [.ref 68, .int x1, .int x2, .int x3, .int x4, .int x5, .int (x6 + 1), .int y]) (by decide +kernel) rfl rfl rfl).trans ?_
      refine (R_goto (off := (-59)) (t := 44) (by decide +kernel) (by decide +kernel)).trans ?_
      rfl
theorem s221_114v2 {L : Nat} {mi : Nat → Nat → Int32} {ml : Nat → Nat → Int64} {d : Nat} {Q : Option Value → xM → Prop} {x1 x2 x3 x4 x5 x6 x7 y : Int32} : X 221 114 [.ref 68, .int x1, .int x2, .int x3, .int x4, .int x5, .int x6, .int x7] [.int y] (SH L, mi, ml, MR) d Q =
    Q (some (.int y)) (SH L, mi, ml, MR) := by
  exact R_ireturn (by decide +kernel) (by decide +kernel)
theorem s222 {L : Nat} {mi : Nat → Nat → Int32} {ml : Nat → Nat → Int64} {d : Nat} {Q : Option Value → xM → Prop} {x1 x2 : Int32} (h1 : xin x1 6 = true) (h2 : ((mi 89 x1.toNatClampNeg) = (-9)) → xin x1 6 = true) (h3 : ¬ ((mi 89 x1.toNatClampNeg) = (-9)) → ((x1 - x1 / 2 * 2) = 0) → xin x1 6 = true) (h4 : ¬ ((mi 89 x1.toNatClampNeg) = (-9)) → ((x1 - x1 / 2 * 2) = 0) → ((mi 89 x1.toNatClampNeg) < x2) → xin x1 6 = true) (h5 : ¬ ((mi 89 x1.toNatClampNeg) = (-9)) → ((x1 - x1 / 2 * 2) = 0) → ¬ ((mi 89 x1.toNatClampNeg) < x2) → xin x1 6 = true) (h6 : ¬ ((mi 89 x1.toNatClampNeg) = (-9)) → ((x1 - x1 / 2 * 2) = 0) → ¬ ((mi 89 x1.toNatClampNeg) < x2) → xin x1 6 = true) (h7 : ¬ ((mi 89 x1.toNatClampNeg) = (-9)) → ¬ ((x1 - x1 / 2 * 2) = 0) → xin x1 6 = true) (h8 : ¬ ((mi 89 x1.toNatClampNeg) = (-9)) → ¬ ((x1 - x1 / 2 * 2) = 0) → (x2 < (mi 89 x1.toNatClampNeg)) → xin x1 6 = true) (h9 : ¬ ((mi 89 x1.toNatClampNeg) = (-9)) → ¬ ((x1 - x1 / 2 * 2) = 0) → ¬ (x2 < (mi 89 x1.toNatClampNeg)) → xin x1 6 = true) (h10 : ¬ ((mi 89 x1.toNatClampNeg) = (-9)) → ¬ ((x1 - x1 / 2 * 2) = 0) → ¬ (x2 < (mi 89 x1.toNatClampNeg)) → xin x1 6 = true) : Xm 222 [.ref 68, .int x1, .int x2] (SH L, mi, ml, MR) d Q =
    if ((mi 89 x1.toNatClampNeg) = (-9)) then (Q none (SH L, (xw mi 89 x1.toNatClampNeg x2), ml, MR)) else (if ((x1 - x1 / 2 * 2) = 0) then (if ((mi 89 x1.toNatClampNeg) < x2) then (Q none (SH L, (xw mi 89 x1.toNatClampNeg x2), ml, MR)) else (Q none (SH L, (xw mi 89 x1.toNatClampNeg (mi 89 x1.toNatClampNeg)), ml, MR))) else (if (x2 < (mi 89 x1.toNatClampNeg)) then (Q none (SH L, (xw mi 89 x1.toNatClampNeg x2), ml, MR)) else (Q none (SH L, (xw mi 89 x1.toNatClampNeg (mi 89 x1.toNatClampNeg)), ml, MR)))) := by
  rw [Xm_ent (n := 4) (loc := [.ref 68, .int x1, .int x2, xmk]) (by decide +kernel) rfl]
  refine (R_pure0 (ins := .aload_n 0) (len := 1) (loc' := [.ref 68, .int x1, .int x2, xmk]) (st' := [.ref 68]) (by decide +kernel) (fun _ => rfl)).trans ?_
  refine (R_gr (i := 75) (ci := 10) (k := 32) (n := 33) (b := 89) (by decide +kernel) (by decide +kernel) (by decide) rfl (SH_ref (by decide +kernel))).trans ?_
  refine (R_pure0 (ins := .iload_n 1) (len := 1) (loc' := [.ref 68, .int x1, .int x2, xmk]) (st' := [.int x1, .ref 89]) (by decide +kernel) (fun _ => rfl)).trans ?_
  refine (R_iaload (kd := 100) (n := 6) (by decide +kernel) rfl (by decide) (h1)).trans ?_
  refine (R_bipush (n := (-9)) (v := (-9)) (by decide +kernel) (by decide +kernel)).trans ?_
  refine (R_icmp_eq (off := 32) (t := 40) (by decide +kernel) (by decide +kernel)).trans (ite_congr rfl (fun c0 => ?_) (fun c0 => ?_))
  · refine (R_iconst (n := 1) (v := 1) (by decide +kernel) (by decide +kernel)).trans ?_
    refine (R_goto (off := 4) (t := 45) (by decide +kernel) (by decide +kernel)).trans ?_
    refine (R_pure0 (ins := .istore_n 3) (len := 1) (loc' := [.ref 68, .int x1, .int x2, .int 1]) (st' := []) (by decide +kernel) (fun _ => rfl)).trans ?_
    refine (R_pure0 (ins := .aload_n 0) (len := 1) (loc' := [.ref 68, .int x1, .int x2, .int 1]) (st' := [.ref 68]) (by decide +kernel) (fun _ => rfl)).trans ?_
    refine (R_gr (i := 75) (ci := 10) (k := 32) (n := 33) (b := 89) (by decide +kernel) (by decide +kernel) (by decide) rfl (SH_ref (by decide +kernel))).trans ?_
    refine (R_pure0 (ins := .iload_n 1) (len := 1) (loc' := [.ref 68, .int x1, .int x2, .int 1]) (st' := [.int x1, .ref 89]) (by decide +kernel) (fun _ => rfl)).trans ?_
    refine (R_pure0 (ins := .iload_n 3) (len := 1) (loc' := [.ref 68, .int x1, .int x2, .int 1]) (st' := [.int 1, .int x1, .ref 89]) (by decide +kernel) (fun _ => rfl)).trans ?_
    refine (R_if_eq (off := 7) (t := 59) (by decide +kernel) (by decide +kernel)).trans ((if_neg (by decide)).trans ?_)
    refine (R_pure0 (ins := .iload_n 2) (len := 1) (loc' := [.ref 68, .int x1, .int x2, .int 1]) (st' := [.int x2, .int x1, .ref 89]) (by decide +kernel) (fun _ => rfl)).trans ?_
    refine (R_goto (off := 9) (t := 65) (by decide +kernel) (by decide +kernel)).trans ?_
    refine (R_iastore (n := 6) (by decide +kernel) rfl (h2 c0)).trans ?_
    exact R_return (by decide +kernel) (by decide +kernel)
  · refine (R_pure0 (ins := .iload_n 1) (len := 1) (loc' := [.ref 68, .int x1, .int x2, xmk]) (st' := [.int x1]) (by decide +kernel) (fun _ => rfl)).trans ?_
    refine (R_iconst (n := 2) (v := 2) (by decide +kernel) (by decide +kernel)).trans ?_
    refine (R_irem (x := x1) (y := 2) (by decide +kernel) (by decide)).trans ?_
    refine (R_if_ne (off := 16) (t := 30) (by decide +kernel) (by decide +kernel)).trans (ite_congr rfl (fun c1 => ?_) (fun c1 => ?_))
    · refine (R_pure0 (ins := .iload_n 2) (len := 1) (loc' := [.ref 68, .int x1, .int x2, xmk]) (st' := [.int x2]) (by decide +kernel) (fun _ => rfl)).trans ?_
      refine (R_pure0 (ins := .aload_n 0) (len := 1) (loc' := [.ref 68, .int x1, .int x2, xmk]) (st' := [.ref 68, .int x2]) (by decide +kernel) (fun _ => rfl)).trans ?_
      refine (R_gr (i := 75) (ci := 10) (k := 32) (n := 33) (b := 89) (by decide +kernel) (by decide +kernel) (by decide) rfl (SH_ref (by decide +kernel))).trans ?_
      refine (R_pure0 (ins := .iload_n 1) (len := 1) (loc' := [.ref 68, .int x1, .int x2, xmk]) (st' := [.int x1, .ref 89, .int x2]) (by decide +kernel) (fun _ => rfl)).trans ?_
      refine (R_iaload (kd := 100) (n := 6) (by decide +kernel) rfl (by decide) (h3 c0 c1)).trans ?_
      refine (R_icmp_le (off := 20) (t := 44) (by decide +kernel) (by decide +kernel)).trans (ite_congr rfl (fun c2 => ?_) (fun c2 => ?_))
      · refine (R_goto (off := 13) (t := 40) (by decide +kernel) (by decide +kernel)).trans ?_
        refine (R_iconst (n := 1) (v := 1) (by decide +kernel) (by decide +kernel)).trans ?_
        refine (R_goto (off := 4) (t := 45) (by decide +kernel) (by decide +kernel)).trans ?_
        refine (R_pure0 (ins := .istore_n 3) (len := 1) (loc' := [.ref 68, .int x1, .int x2, .int 1]) (st' := []) (by decide +kernel) (fun _ => rfl)).trans ?_
        refine (R_pure0 (ins := .aload_n 0) (len := 1) (loc' := [.ref 68, .int x1, .int x2, .int 1]) (st' := [.ref 68]) (by decide +kernel) (fun _ => rfl)).trans ?_
        refine (R_gr (i := 75) (ci := 10) (k := 32) (n := 33) (b := 89) (by decide +kernel) (by decide +kernel) (by decide) rfl (SH_ref (by decide +kernel))).trans ?_
        refine (R_pure0 (ins := .iload_n 1) (len := 1) (loc' := [.ref 68, .int x1, .int x2, .int 1]) (st' := [.int x1, .ref 89]) (by decide +kernel) (fun _ => rfl)).trans ?_
        refine (R_pure0 (ins := .iload_n 3) (len := 1) (loc' := [.ref 68, .int x1, .int x2, .int 1]) (st' := [.int 1, .int x1, .ref 89]) (by decide +kernel) (fun _ => rfl)).trans ?_
        refine (R_if_eq (off := 7) (t := 59) (by decide +kernel) (by decide +kernel)).trans ((if_neg (by decide)).trans ?_)
        refine (R_pure0 (ins := .iload_n 2) (len := 1) (loc' := [.ref 68, .int x1, .int x2, .int 1]) (st' := [.int x2, .int x1, .ref 89]) (by decide +kernel) (fun _ => rfl)).trans ?_
        refine (R_goto (off := 9) (t := 65) (by decide +kernel) (by decide +kernel)).trans ?_
        refine (R_iastore (n := 6) (by decide +kernel) rfl (h4 c0 c1 c2)).trans ?_
        exact R_return (by decide +kernel) (by decide +kernel)
      · refine (R_iconst (n := 0) (v := 0) (by decide +kernel) (by decide +kernel)).trans ?_
        refine (R_pure0 (ins := .istore_n 3) (len := 1) (loc' := [.ref 68, .int x1, .int x2, .int 0]) (st' := []) (by decide +kernel) (fun _ => rfl)).trans ?_
        refine (R_pure0 (ins := .aload_n 0) (len := 1) (loc' := [.ref 68, .int x1, .int x2, .int 0]) (st' := [.ref 68]) (by decide +kernel) (fun _ => rfl)).trans ?_
        refine (R_gr (i := 75) (ci := 10) (k := 32) (n := 33) (b := 89) (by decide +kernel) (by decide +kernel) (by decide) rfl (SH_ref (by decide +kernel))).trans ?_
        refine (R_pure0 (ins := .iload_n 1) (len := 1) (loc' := [.ref 68, .int x1, .int x2, .int 0]) (st' := [.int x1, .ref 89]) (by decide +kernel) (fun _ => rfl)).trans ?_
        refine (R_pure0 (ins := .iload_n 3) (len := 1) (loc' := [.ref 68, .int x1, .int x2, .int 0]) (st' := [.int 0, .int x1, .ref 89]) (by decide +kernel) (fun _ => rfl)).trans ?_
        refine (R_if_eq (off := 7) (t := 59) (by decide +kernel) (by decide +kernel)).trans ((if_pos (by decide)).trans ?_)
        refine (R_pure0 (ins := .aload_n 0) (len := 1) (loc' := [.ref 68, .int x1, .int x2, .int 0]) (st' := [.ref 68, .int x1, .ref 89]) (by decide +kernel) (fun _ => rfl)).trans ?_
        refine (R_gr (i := 75) (ci := 10) (k := 32) (n := 33) (b := 89) (by decide +kernel) (by decide +kernel) (by decide) rfl (SH_ref (by decide +kernel))).trans ?_
        refine (R_pure0 (ins := .iload_n 1) (len := 1) (loc' := [.ref 68, .int x1, .int x2, .int 0]) (st' := [.int x1, .ref 89, .int x1, .ref 89]) (by decide +kernel) (fun _ => rfl)).trans ?_
        refine (R_iaload (kd := 100) (n := 6) (by decide +kernel) rfl (by decide) (h5 c0 c1 c2)).trans ?_
        refine (R_iastore (n := 6) (by decide +kernel) rfl (h6 c0 c1 c2)).trans ?_
        exact R_return (by decide +kernel) (by decide +kernel)
    · refine (R_pure0 (ins := .iload_n 2) (len := 1) (loc' := [.ref 68, .int x1, .int x2, xmk]) (st' := [.int x2]) (by decide +kernel) (fun _ => rfl)).trans ?_
      refine (R_pure0 (ins := .aload_n 0) (len := 1) (loc' := [.ref 68, .int x1, .int x2, xmk]) (st' := [.ref 68, .int x2]) (by decide +kernel) (fun _ => rfl)).trans ?_
      refine (R_gr (i := 75) (ci := 10) (k := 32) (n := 33) (b := 89) (by decide +kernel) (by decide +kernel) (by decide) rfl (SH_ref (by decide +kernel))).trans ?_
      refine (R_pure0 (ins := .iload_n 1) (len := 1) (loc' := [.ref 68, .int x1, .int x2, xmk]) (st' := [.int x1, .ref 89, .int x2]) (by decide +kernel) (fun _ => rfl)).trans ?_
      refine (R_iaload (kd := 100) (n := 6) (by decide +kernel) rfl (by decide) (h7 c0 c1)).trans ?_
      refine (R_icmp_ge (off := 7) (t := 44) (by decide +kernel) (by decide +kernel)).trans (ite_congr rfl (fun c3 => ?_) (fun c3 => ?_))
      · refine (R_iconst (n := 1) (v := 1) (by decide +kernel) (by decide +kernel)).trans ?_
        refine (R_goto (off := 4) (t := 45) (by decide +kernel) (by decide +kernel)).trans ?_
        refine (R_pure0 (ins := .istore_n 3) (len := 1) (loc' := [.ref 68, .int x1, .int x2, .int 1]) (st' := []) (by decide +kernel) (fun _ => rfl)).trans ?_
        refine (R_pure0 (ins := .aload_n 0) (len := 1) (loc' := [.ref 68, .int x1, .int x2, .int 1]) (st' := [.ref 68]) (by decide +kernel) (fun _ => rfl)).trans ?_
        refine (R_gr (i := 75) (ci := 10) (k := 32) (n := 33) (b := 89) (by decide +kernel) (by decide +kernel) (by decide) rfl (SH_ref (by decide +kernel))).trans ?_
        refine (R_pure0 (ins := .iload_n 1) (len := 1) (loc' := [.ref 68, .int x1, .int x2, .int 1]) (st' := [.int x1, .ref 89]) (by decide +kernel) (fun _ => rfl)).trans ?_
        refine (R_pure0 (ins := .iload_n 3) (len := 1) (loc' := [.ref 68, .int x1, .int x2, .int 1]) (st' := [.int 1, .int x1, .ref 89]) (by decide +kernel) (fun _ => rfl)).trans ?_
        refine (R_if_eq (off := 7) (t := 59) (by decide +kernel) (by decide +kernel)).trans ((if_neg (by decide)).trans ?_)
        refine (R_pure0 (ins := .iload_n 2) (len := 1) (loc' := [.ref 68, .int x1, .int x2, .int 1]) (st' := [.int x2, .int x1, .ref 89]) (by decide +kernel) (fun _ => rfl)).trans ?_
        refine (R_goto (off := 9) (t := 65) (by decide +kernel) (by decide +kernel)).trans ?_
        refine (R_iastore (n := 6) (by decide +kernel) rfl (h8 c0 c1 c3)).trans ?_
        exact R_return (by decide +kernel) (by decide +kernel)
      · refine (R_iconst (n := 0) (v := 0) (by decide +kernel) (by decide +kernel)).trans ?_
        refine (R_pure0 (ins := .istore_n 3) (len := 1) (loc' := [.ref 68, .int x1, .int x2, .int 0]) (st' := []) (by decide +kernel) (fun _ => rfl)).trans ?_
        refine (R_pure0 (ins := .aload_n 0) (len := 1) (loc' := [.ref 68, .int x1, .int x2, .int 0]) (st' := [.ref 68]) (by decide +kernel) (fun _ => rfl)).trans ?_
        refine (R_gr (i := 75) (ci := 10) (k := 32) (n := 33) (b := 89) (by decide +kernel) (by decide +kernel) (by decide) rfl (SH_ref (by decide +kernel))).trans ?_
        refine (R_pure0 (ins := .iload_n 1) (len := 1) (loc' := [.ref 68, .int x1, .int x2, .int 0]) (st' := [.int x1, .ref 89]) (by decide +kernel) (fun _ => rfl)).trans ?_
        refine (R_pure0 (ins := .iload_n 3) (len := 1) (loc' := [.ref 68, .int x1, .int x2, .int 0]) (st' := [.int 0, .int x1, .ref 89]) (by decide +kernel) (fun _ => rfl)).trans ?_
        refine (R_if_eq (off := 7) (t := 59) (by decide +kernel) (by decide +kernel)).trans ((if_pos (by decide)).trans ?_)
        refine (R_pure0 (ins := .aload_n 0) (len := 1) (loc' := [.ref 68, .int x1, .int x2, .int 0]) (st' := [.ref 68, .int x1, .ref 89]) (by decide +kernel) (fun _ => rfl)).trans ?_
        refine (R_gr (i := 75) (ci := 10) (k := 32) (n := 33) (b := 89) (by decide +kernel) (by decide +kernel) (by decide) rfl (SH_ref (by decide +kernel))).trans ?_
        refine (R_pure0 (ins := .iload_n 1) (len := 1) (loc' := [.ref 68, .int x1, .int x2, .int 0]) (st' := [.int x1, .ref 89, .int x1, .ref 89]) (by decide +kernel) (fun _ => rfl)).trans ?_
        refine (R_iaload (kd := 100) (n := 6) (by decide +kernel) rfl (by decide) (h9 c0 c1 c3)).trans ?_
        refine (R_iastore (n := 6) (by decide +kernel) rfl (h10 c0 c1 c3)).trans ?_
        exact R_return (by decide +kernel) (by decide +kernel)
theorem s223 {L : Nat} {mi : Nat → Nat → Int32} {ml : Nat → Nat → Int64} {d : Nat} {Q : Option Value → xM → Prop} {x1 : Int32} : Xm 223 [.ref 68, .int x1] (SH L, mi, ml, MR) (d + 1) Q =
    Xm 149 [.long x1.toInt64, .long 0, .long 5] (SH L, mi, ml, MR) d (fun v μ' => X 223 9 [.ref 68, .int x1, xmk, xmk, xmk] (v.toList ++ []) μ' (d + 1) Q) := by
  rw [Xm_ent (n := 5) (loc := [.ref 68, .int x1, xmk, xmk, xmk]) (by decide +kernel) rfl]
  refine (R_pure0 (ins := .iload_n 1) (len := 1) (loc' := [.ref 68, .int x1, xmk, xmk, xmk]) (st' := [.int x1]) (by decide +kernel) (fun _ => rfl)).trans ?_
  refine (R_pure0 (ins := .i2l) (len := 1) (loc' := [.ref 68, .int x1, xmk, xmk, xmk]) (st' := [.long x1.toInt64]) (by decide +kernel) (fun _ => rfl)).trans ?_
  refine (R_lconst (n := 0) (v := 0) (by decide +kernel) (by decide +kernel)).trans ?_
  refine (R_ldc2 (i := 85) (v := 5) (by decide +kernel) (by decide +kernel)).trans ?_
  refine (R_static (i := 87) (f := 149) (kd := 2) (na := 3) (ml := 6) (As := [.long x1.toInt64, .long 0, .long 5]) (rest := []) (by decide +kernel) (by decide +kernel) (by decide) (by decide +kernel) rfl rfl (by decide +kernel) (Nat.le_of_ble_eq_true rfl)).trans ?_
  rfl
theorem s223_9 {L : Nat} {mi : Nat → Nat → Int32} {ml : Nat → Nat → Int64} {d : Nat} {Q : Option Value → xM → Prop} {x1 y : Int32} : X 223 9 [.ref 68, .int x1, xmk, xmk, xmk] [.int y] (SH L, mi, ml, MR) (d + 1) Q =
    if (y = 0) then (Q (some (.int (-1))) (SH L, mi, ml, MR)) else (if ((mi 68 4) = 0) then (Q (some (.int (-4))) (SH L, mi, ml, MR)) else (Xm 188 [.ref 77, .int 6, .ref 87, .int 0, .int 6] (SH L, mi, ml, MR) d (fun v μ' => X 223 40 [.ref 68, .int x1, xmk, xmk, xmk] (v.toList ++ []) μ' (d + 1) Q))) := by
  refine (R_if_ne (off := 5) (t := 14) (by decide +kernel) (by decide +kernel)).trans (ite_congr rfl (fun c0 => ?_) (fun c0 => ?_))
  · refine (R_iconst (n := (-1)) (v := (-1)) (by decide +kernel) (by decide +kernel)).trans ?_
    exact R_ireturn (by decide +kernel) (by decide +kernel)
  · refine (R_pure0 (ins := .aload_n 0) (len := 1) (loc' := [.ref 68, .int x1, xmk, xmk, xmk]) (st' := [.ref 68]) (by decide +kernel) (fun _ => rfl)).trans ?_
    refine (R_gi (i := 131) (ci := 10) (k := 4) (n := 33) (by decide +kernel) (by decide +kernel) (by decide) rfl).trans ?_
    refine (R_if_ne (off := 6) (t := 24) (by decide +kernel) (by decide +kernel)).trans (ite_congr rfl (fun c1 => ?_) (fun c1 => ?_))
    · refine (R_bipush (n := (-4)) (v := (-4)) (by decide +kernel) (by decide +kernel)).trans ?_
      exact R_ireturn (by decide +kernel) (by decide +kernel)
    · refine (R_pure0 (ins := .aload_n 0) (len := 1) (loc' := [.ref 68, .int x1, xmk, xmk, xmk]) (st' := [.ref 68]) (by decide +kernel) (fun _ => rfl)).trans ?_
      refine (R_gr (i := 34) (ci := 10) (k := 9) (n := 33) (b := 77) (by decide +kernel) (by decide +kernel) (by decide) rfl (SH_ref (by decide +kernel))).trans ?_
      refine (R_bipush (n := 6) (v := 6) (by decide +kernel) (by decide +kernel)).trans ?_
      refine (R_pure0 (ins := .aload_n 0) (len := 1) (loc' := [.ref 68, .int x1, xmk, xmk, xmk]) (st' := [.ref 68, .int 6, .ref 77]) (by decide +kernel) (fun _ => rfl)).trans ?_
      refine (R_gr (i := 69) (ci := 10) (k := 30) (n := 33) (b := 87) (by decide +kernel) (by decide +kernel) (by decide) rfl (SH_ref (by decide +kernel))).trans ?_
      refine (R_iconst (n := 0) (v := 0) (by decide +kernel) (by decide +kernel)).trans ?_
      refine (R_bipush (n := 6) (v := 6) (by decide +kernel) (by decide +kernel)).trans ?_
      refine (R_static (i := 184) (f := 188) (kd := 2) (na := 5) (ml := 6) (As := [.ref 77, .int 6, .ref 87, .int 0, .int 6]) (rest := []) (by decide +kernel) (by decide +kernel) (by decide) (by decide +kernel) rfl rfl (by decide +kernel) (Nat.le_of_ble_eq_true rfl)).trans ?_
      rfl
theorem s223_40 {L : Nat} {mi : Nat → Nat → Int32} {ml : Nat → Nat → Int64} {d : Nat} {Q : Option Value → xM → Prop} {x1 : Int32} : X 223 40 [.ref 68, .int x1, xmk, xmk, xmk] [] (SH L, mi, ml, MR) d Q =
    X 223 65 [.ref 68, .int x1, .int 0, xmk, xmk] [] (SH L, (xw (xw (xw mi 87 (6 : Int32).toNatClampNeg 0) 88 (0 : Int32).toNatClampNeg (-1)) 89 (0 : Int32).toNatClampNeg (-9)), ml, MR) d Q := by
  refine (R_pure0 (ins := .aload_n 0) (len := 1) (loc' := [.ref 68, .int x1, xmk, xmk, xmk]) (st' := [.ref 68]) (by decide +kernel) (fun _ => rfl)).trans ?_
  refine (R_gr (i := 69) (ci := 10) (k := 30) (n := 33) (b := 87) (by decide +kernel) (by decide +kernel) (by decide) rfl (SH_ref (by decide +kernel))).trans ?_
  refine (R_bipush (n := 6) (v := 6) (by decide +kernel) (by decide +kernel)).trans ?_
  refine (R_iconst (n := 0) (v := 0) (by decide +kernel) (by decide +kernel)).trans ?_
  refine (R_iastore (n := 42) (by decide +kernel) rfl (by decide)).trans ?_
  refine (R_pure0 (ins := .aload_n 0) (len := 1) (loc' := [.ref 68, .int x1, xmk, xmk, xmk]) (st' := [.ref 68]) (by decide +kernel) (fun _ => rfl)).trans ?_
  refine (R_gr (i := 72) (ci := 10) (k := 31) (n := 33) (b := 88) (by decide +kernel) (by decide +kernel) (by decide) rfl (SH_ref (by decide +kernel))).trans ?_
  refine (R_iconst (n := 0) (v := 0) (by decide +kernel) (by decide +kernel)).trans ?_
  refine (R_iconst (n := (-1)) (v := (-1)) (by decide +kernel) (by decide +kernel)).trans ?_
  refine (R_iastore (n := 6) (by decide +kernel) rfl (by decide)).trans ?_
  refine (R_pure0 (ins := .aload_n 0) (len := 1) (loc' := [.ref 68, .int x1, xmk, xmk, xmk]) (st' := [.ref 68]) (by decide +kernel) (fun _ => rfl)).trans ?_
  refine (R_gr (i := 75) (ci := 10) (k := 32) (n := 33) (b := 89) (by decide +kernel) (by decide +kernel) (by decide) rfl (SH_ref (by decide +kernel))).trans ?_
  refine (R_iconst (n := 0) (v := 0) (by decide +kernel) (by decide +kernel)).trans ?_
  refine (R_bipush (n := (-9)) (v := (-9)) (by decide +kernel) (by decide +kernel)).trans ?_
  refine (R_iastore (n := 6) (by decide +kernel) rfl (by decide)).trans ?_
  refine (R_iconst (n := 0) (v := 0) (by decide +kernel) (by decide +kernel)).trans ?_
  refine (R_pure0 (ins := .istore_n 2) (len := 1) (loc' := [.ref 68, .int x1, .int 0, xmk, xmk]) (st' := []) (by decide +kernel) (fun _ => rfl)).trans ?_
  rfl
theorem s223_65 {L : Nat} {mi : Nat → Nat → Int32} {ml : Nat → Nat → Int64} {d : Nat} {Q : Option Value → xM → Prop} {x1 x2 : Int32} (h1 : xin x2 6 = true) (h2 : xin x2 6 = true) (h3 : xin x2 6 = true) (h4 : (x2 = x1) → xin x2 6 = true) (h5 : (x2 = x1) → (((xw mi 88 x2.toNatClampNeg ((mi 88 x2.toNatClampNeg) + 1)) 89 x2.toNatClampNeg) = (-9)) → xin ((7 * x2) + 6) 42 = true) (h6 : (x2 = x1) → ¬ (((xw mi 88 x2.toNatClampNeg ((mi 88 x2.toNatClampNeg) + 1)) 89 x2.toNatClampNeg) = (-9)) → xin x2 6 = true) (h7 : ¬ (x2 = x1) → (((xw mi 88 x2.toNatClampNeg ((mi 88 x2.toNatClampNeg) + 1)) 88 x2.toNatClampNeg) < ((xw mi 88 x2.toNatClampNeg ((mi 88 x2.toNatClampNeg) + 1)) 68 4)) → xin ((7 * x2) + ((xw mi 88 x2.toNatClampNeg ((mi 88 x2.toNatClampNeg) + 1)) 88 x2.toNatClampNeg)) 42 = true) (h8 : ¬ (x2 = x1) → ¬ (((xw mi 88 x2.toNatClampNeg ((mi 88 x2.toNatClampNeg) + 1)) 88 x2.toNatClampNeg) < ((xw mi 88 x2.toNatClampNeg ((mi 88 x2.toNatClampNeg) + 1)) 68 4)) → xin x2 6 = true) (h9 : ¬ (x2 = x1) → ¬ (((xw mi 88 x2.toNatClampNeg ((mi 88 x2.toNatClampNeg) + 1)) 88 x2.toNatClampNeg) < ((xw mi 88 x2.toNatClampNeg ((mi 88 x2.toNatClampNeg) + 1)) 68 4)) → (((xw mi 88 x2.toNatClampNeg ((mi 88 x2.toNatClampNeg) + 1)) 89 x2.toNatClampNeg) = (-9)) → xin ((7 * x2) + 6) 42 = true) (h10 : ¬ (x2 = x1) → ¬ (((xw mi 88 x2.toNatClampNeg ((mi 88 x2.toNatClampNeg) + 1)) 88 x2.toNatClampNeg) < ((xw mi 88 x2.toNatClampNeg ((mi 88 x2.toNatClampNeg) + 1)) 68 4)) → ¬ (((xw mi 88 x2.toNatClampNeg ((mi 88 x2.toNatClampNeg) + 1)) 89 x2.toNatClampNeg) = (-9)) → xin x2 6 = true) : X 223 65 [.ref 68, .int x1, .int x2, xmk, xmk] [] (SH L, mi, ml, MR) (d + 1) Q =
    if (x2 = x1) then (if (((xw mi 88 x2.toNatClampNeg ((mi 88 x2.toNatClampNeg) + 1)) 89 x2.toNatClampNeg) = (-9)) then (if (x2 = 0) then (Q (some (.int ((xw mi 88 x2.toNatClampNeg ((mi 88 x2.toNatClampNeg) + 1)) 87 ((7 * x2) + 6).toNatClampNeg))) (SH L, (xw mi 88 x2.toNatClampNeg ((mi 88 x2.toNatClampNeg) + 1)), ml, MR)) else (Xm 222 [.ref 68, .int (x2 + (-1)), .int ((xw mi 88 x2.toNatClampNeg ((mi 88 x2.toNatClampNeg) + 1)) 87 ((7 * x2) + 6).toNatClampNeg)] (SH L, (xw mi 88 x2.toNatClampNeg ((mi 88 x2.toNatClampNeg) + 1)), ml, MR) d (fun v μ' => X 223 146 [.ref 68, .int x1, .int (x2 + (-1)), .int ((xw mi 88 x2.toNatClampNeg ((mi 88 x2.toNatClampNeg) + 1)) 88 x2.toNatClampNeg), .int ((xw mi 88 x2.toNatClampNeg ((mi 88 x2.toNatClampNeg) + 1)) 87 ((7 * x2) + 6).toNatClampNeg)] (v.toList ++ []) μ' (d + 1) Q))) else (if (x2 = 0) then (Q (some (.int ((xw mi 88 x2.toNatClampNeg ((mi 88 x2.toNatClampNeg) + 1)) 89 x2.toNatClampNeg))) (SH L, (xw mi 88 x2.toNatClampNeg ((mi 88 x2.toNatClampNeg) + 1)), ml, MR)) else (Xm 222 [.ref 68, .int (x2 + (-1)), .int ((xw mi 88 x2.toNatClampNeg ((mi 88 x2.toNatClampNeg) + 1)) 89 x2.toNatClampNeg)] (SH L, (xw mi 88 x2.toNatClampNeg ((mi 88 x2.toNatClampNeg) + 1)), ml, MR) d (fun v μ' => X 223 146 [.ref 68, .int x1, .int (x2 + (-1)), .int ((xw mi 88 x2.toNatClampNeg ((mi 88 x2.toNatClampNeg) + 1)) 88 x2.toNatClampNeg), .int ((xw mi 88 x2.toNatClampNeg ((mi 88 x2.toNatClampNeg) + 1)) 89 x2.toNatClampNeg)] (v.toList ++ []) μ' (d + 1) Q)))) else (if (((xw mi 88 x2.toNatClampNeg ((mi 88 x2.toNatClampNeg) + 1)) 88 x2.toNatClampNeg) < ((xw mi 88 x2.toNatClampNeg ((mi 88 x2.toNatClampNeg) + 1)) 68 4)) then (Xm 182 [.ref 68, .int ((xw mi 88 x2.toNatClampNeg ((mi 88 x2.toNatClampNeg) + 1)) 88 x2.toNatClampNeg), .int ((xw mi 88 x2.toNatClampNeg ((mi 88 x2.toNatClampNeg) + 1)) 87 ((7 * x2) + ((xw mi 88 x2.toNatClampNeg ((mi 88 x2.toNatClampNeg) + 1)) 88 x2.toNatClampNeg)).toNatClampNeg)] (SH L, (xw mi 88 x2.toNatClampNeg ((mi 88 x2.toNatClampNeg) + 1)), ml, MR) d (fun v μ' => X 223 165 [.ref 68, .int x1, .int x2, .int ((xw mi 88 x2.toNatClampNeg ((mi 88 x2.toNatClampNeg) + 1)) 88 x2.toNatClampNeg), xmk] (v.toList ++ []) μ' (d + 1) Q)) else (if (((xw mi 88 x2.toNatClampNeg ((mi 88 x2.toNatClampNeg) + 1)) 89 x2.toNatClampNeg) = (-9)) then (if (x2 = 0) then (Q (some (.int ((xw mi 88 x2.toNatClampNeg ((mi 88 x2.toNatClampNeg) + 1)) 87 ((7 * x2) + 6).toNatClampNeg))) (SH L, (xw mi 88 x2.toNatClampNeg ((mi 88 x2.toNatClampNeg) + 1)), ml, MR)) else (Xm 222 [.ref 68, .int (x2 + (-1)), .int ((xw mi 88 x2.toNatClampNeg ((mi 88 x2.toNatClampNeg) + 1)) 87 ((7 * x2) + 6).toNatClampNeg)] (SH L, (xw mi 88 x2.toNatClampNeg ((mi 88 x2.toNatClampNeg) + 1)), ml, MR) d (fun v μ' => X 223 146 [.ref 68, .int x1, .int (x2 + (-1)), .int ((xw mi 88 x2.toNatClampNeg ((mi 88 x2.toNatClampNeg) + 1)) 88 x2.toNatClampNeg), .int ((xw mi 88 x2.toNatClampNeg ((mi 88 x2.toNatClampNeg) + 1)) 87 ((7 * x2) + 6).toNatClampNeg)] (v.toList ++ []) μ' (d + 1) Q))) else (if (x2 = 0) then (Q (some (.int ((xw mi 88 x2.toNatClampNeg ((mi 88 x2.toNatClampNeg) + 1)) 89 x2.toNatClampNeg))) (SH L, (xw mi 88 x2.toNatClampNeg ((mi 88 x2.toNatClampNeg) + 1)), ml, MR)) else (Xm 222 [.ref 68, .int (x2 + (-1)), .int ((xw mi 88 x2.toNatClampNeg ((mi 88 x2.toNatClampNeg) + 1)) 89 x2.toNatClampNeg)] (SH L, (xw mi 88 x2.toNatClampNeg ((mi 88 x2.toNatClampNeg) + 1)), ml, MR) d (fun v μ' => X 223 146 [.ref 68, .int x1, .int (x2 + (-1)), .int ((xw mi 88 x2.toNatClampNeg ((mi 88 x2.toNatClampNeg) + 1)) 88 x2.toNatClampNeg), .int ((xw mi 88 x2.toNatClampNeg ((mi 88 x2.toNatClampNeg) + 1)) 89 x2.toNatClampNeg)] (v.toList ++ []) μ' (d + 1) Q))))) := by
  refine (R_pure0 (ins := .aload_n 0) (len := 1) (loc' := [.ref 68, .int x1, .int x2, xmk, xmk]) (st' := [.ref 68]) (by decide +kernel) (fun _ => rfl)).trans ?_
  refine (R_gr (i := 72) (ci := 10) (k := 31) (n := 33) (b := 88) (by decide +kernel) (by decide +kernel) (by decide) rfl (SH_ref (by decide +kernel))).trans ?_
  refine (R_pure0 (ins := .iload_n 2) (len := 1) (loc' := [.ref 68, .int x1, .int x2, xmk, xmk]) (st' := [.int x2, .ref 88]) (by decide +kernel) (fun _ => rfl)).trans ?_
  refine (R_pure0 (ins := .dup2) (len := 1) (loc' := [.ref 68, .int x1, .int x2, xmk, xmk]) (st' := [.int x2, .ref 88, .int x2, .ref 88]) (by decide +kernel) (fun _ => rfl)).trans ?_
  refine (R_iaload (kd := 100) (n := 6) (by decide +kernel) rfl (by decide) (h1)).trans ?_
  refine (R_iconst (n := 1) (v := 1) (by decide +kernel) (by decide +kernel)).trans ?_
  refine (R_pure0 (ins := .iadd) (len := 1) (loc' := [.ref 68, .int x1, .int x2, xmk, xmk]) (st' := [.int ((mi 88 x2.toNatClampNeg) + 1), .int x2, .ref 88]) (by decide +kernel) (fun _ => rfl)).trans ?_
  refine (R_iastore (n := 6) (by decide +kernel) rfl (h2)).trans ?_
  refine (R_pure0 (ins := .aload_n 0) (len := 1) (loc' := [.ref 68, .int x1, .int x2, xmk, xmk]) (st' := [.ref 68]) (by decide +kernel) (fun _ => rfl)).trans ?_
  refine (R_gr (i := 72) (ci := 10) (k := 31) (n := 33) (b := 88) (by decide +kernel) (by decide +kernel) (by decide) rfl (SH_ref (by decide +kernel))).trans ?_
  refine (R_pure0 (ins := .iload_n 2) (len := 1) (loc' := [.ref 68, .int x1, .int x2, xmk, xmk]) (st' := [.int x2, .ref 88]) (by decide +kernel) (fun _ => rfl)).trans ?_
  refine (R_iaload (kd := 100) (n := 6) (by decide +kernel) rfl (by decide) (h3)).trans ?_
  refine (R_pure0 (ins := .istore_n 3) (len := 1) (loc' := [.ref 68, .int x1, .int x2, .int ((xw mi 88 x2.toNatClampNeg ((mi 88 x2.toNatClampNeg) + 1)) 88 x2.toNatClampNeg), xmk]) (st' := []) (by decide +kernel) (fun _ => rfl)).trans ?_
  refine (R_pure0 (ins := .iload_n 2) (len := 1) (loc' := [.ref 68, .int x1, .int x2, .int ((xw mi 88 x2.toNatClampNeg ((mi 88 x2.toNatClampNeg) + 1)) 88 x2.toNatClampNeg), xmk]) (st' := [.int x2]) (by decide +kernel) (fun _ => rfl)).trans ?_
  refine (R_pure0 (ins := .iload_n 1) (len := 1) (loc' := [.ref 68, .int x1, .int x2, .int ((xw mi 88 x2.toNatClampNeg ((mi 88 x2.toNatClampNeg) + 1)) 88 x2.toNatClampNeg), xmk]) (st' := [.int x1, .int x2]) (by decide +kernel) (fun _ => rfl)).trans ?_
  refine (R_icmp_eq (off := 11) (t := 95) (by decide +kernel) (by decide +kernel)).trans (ite_congr rfl (fun c0 => ?_) (fun c0 => ?_))
  · refine (R_pure0 (ins := .aload_n 0) (len := 1) (loc' := [.ref 68, .int x1, .int x2, .int ((xw mi 88 x2.toNatClampNeg ((mi 88 x2.toNatClampNeg) + 1)) 88 x2.toNatClampNeg), xmk]) (st' := [.ref 68]) (by decide +kernel) (fun _ => rfl)).trans ?_
    refine (R_gr (i := 75) (ci := 10) (k := 32) (n := 33) (b := 89) (by decide +kernel) (by decide +kernel) (by decide) rfl (SH_ref (by decide +kernel))).trans ?_
    refine (R_pure0 (ins := .iload_n 2) (len := 1) (loc' := [.ref 68, .int x1, .int x2, .int ((xw mi 88 x2.toNatClampNeg ((mi 88 x2.toNatClampNeg) + 1)) 88 x2.toNatClampNeg), xmk]) (st' := [.int x2, .ref 89]) (by decide +kernel) (fun _ => rfl)).trans ?_
    refine (R_iaload (kd := 100) (n := 6) (by decide +kernel) rfl (by decide) (h4 c0)).trans ?_
    refine (R_bipush (n := (-9)) (v := (-9)) (by decide +kernel) (by decide +kernel)).trans ?_
    refine (R_icmp_ne (off := 18) (t := 121) (by decide +kernel) (by decide +kernel)).trans (ite_congr rfl (fun c1 => ?_) (fun c1 => ?_))
    · refine (R_pure0 (ins := .aload_n 0) (len := 1) (loc' := [.ref 68, .int x1, .int x2, .int ((xw mi 88 x2.toNatClampNeg ((mi 88 x2.toNatClampNeg) + 1)) 88 x2.toNatClampNeg), xmk]) (st' := [.ref 68]) (by decide +kernel) (fun _ => rfl)).trans ?_
      refine (R_gr (i := 69) (ci := 10) (k := 30) (n := 33) (b := 87) (by decide +kernel) (by decide +kernel) (by decide) rfl (SH_ref (by decide +kernel))).trans ?_
      refine (R_bipush (n := 7) (v := 7) (by decide +kernel) (by decide +kernel)).trans ?_
      refine (R_pure0 (ins := .iload_n 2) (len := 1) (loc' := [.ref 68, .int x1, .int x2, .int ((xw mi 88 x2.toNatClampNeg ((mi 88 x2.toNatClampNeg) + 1)) 88 x2.toNatClampNeg), xmk]) (st' := [.int x2, .int 7, .ref 87]) (by decide +kernel) (fun _ => rfl)).trans ?_
      refine (R_pure0 (ins := .imul) (len := 1) (loc' := [.ref 68, .int x1, .int x2, .int ((xw mi 88 x2.toNatClampNeg ((mi 88 x2.toNatClampNeg) + 1)) 88 x2.toNatClampNeg), xmk]) (st' := [.int (7 * x2), .ref 87]) (by decide +kernel) (fun _ => rfl)).trans ?_
      refine (R_bipush (n := 6) (v := 6) (by decide +kernel) (by decide +kernel)).trans ?_
      refine (R_pure0 (ins := .iadd) (len := 1) (loc' := [.ref 68, .int x1, .int x2, .int ((xw mi 88 x2.toNatClampNeg ((mi 88 x2.toNatClampNeg) + 1)) 88 x2.toNatClampNeg), xmk]) (st' := [.int ((7 * x2) + 6), .ref 87]) (by decide +kernel) (fun _ => rfl)).trans ?_
      refine (R_iaload (kd := 100) (n := 42) (by decide +kernel) rfl (by decide) (h5 c0 c1)).trans ?_
      refine (R_goto (off := 9) (t := 127) (by decide +kernel) (by decide +kernel)).trans ?_
      refine (R_pure0 (ins := .istore 4) (len := 2) (loc' := [.ref 68, .int x1, .int x2, .int ((xw mi 88 x2.toNatClampNeg ((mi 88 x2.toNatClampNeg) + 1)) 88 x2.toNatClampNeg), .int ((xw mi 88 x2.toNatClampNeg ((mi 88 x2.toNatClampNeg) + 1)) 87 ((7 * x2) + 6).toNatClampNeg)]) (st' := []) (by decide +kernel) (fun _ => rfl)).trans ?_
      refine (R_pure0 (ins := .iload_n 2) (len := 1) (loc' := [.ref 68, .int x1, .int x2, .int ((xw mi 88 x2.toNatClampNeg ((mi 88 x2.toNatClampNeg) + 1)) 88 x2.toNatClampNeg), .int ((xw mi 88 x2.toNatClampNeg ((mi 88 x2.toNatClampNeg) + 1)) 87 ((7 * x2) + 6).toNatClampNeg)]) (st' := [.int x2]) (by decide +kernel) (fun _ => rfl)).trans ?_
      refine (R_if_ne (off := 6) (t := 136) (by decide +kernel) (by decide +kernel)).trans (ite_congr rfl (fun c2 => ?_) (fun c2 => ?_))
      · refine (R_pure0 (ins := .iload 4) (len := 2) (loc' := [.ref 68, .int x1, .int x2, .int ((xw mi 88 x2.toNatClampNeg ((mi 88 x2.toNatClampNeg) + 1)) 88 x2.toNatClampNeg), .int ((xw mi 88 x2.toNatClampNeg ((mi 88 x2.toNatClampNeg) + 1)) 87 ((7 * x2) + 6).toNatClampNeg)]) (st' := [.int ((xw mi 88 x2.toNatClampNeg ((mi 88 x2.toNatClampNeg) + 1)) 87 ((7 * x2) + 6).toNatClampNeg)]) (by decide +kernel) (fun _ => rfl)).trans ?_
        exact R_ireturn (by decide +kernel) (by decide +kernel)
      · refine (R_iinc (k := 2) (n := (-1)) (x := x2) (v := (x2 + (-1))) (loc' := [.ref 68, .int x1, .int (x2 + (-1)), .int ((xw mi 88 x2.toNatClampNeg ((mi 88 x2.toNatClampNeg) + 1)) 88 x2.toNatClampNeg), .int ((xw mi 88 x2.toNatClampNeg ((mi 88 x2.toNatClampNeg) + 1)) 87 ((7 * x2) + 6).toNatClampNeg)]) (by decide +kernel) rfl rfl rfl).trans ?_
        refine (R_pure0 (ins := .aload_n 0) (len := 1) (loc' := [.ref 68, .int x1, .int (x2 + (-1)), .int ((xw mi 88 x2.toNatClampNeg ((mi 88 x2.toNatClampNeg) + 1)) 88 x2.toNatClampNeg), .int ((xw mi 88 x2.toNatClampNeg ((mi 88 x2.toNatClampNeg) + 1)) 87 ((7 * x2) + 6).toNatClampNeg)]) (st' := [.ref 68]) (by decide +kernel) (fun _ => rfl)).trans ?_
        refine (R_pure0 (ins := .iload_n 2) (len := 1) (loc' := [.ref 68, .int x1, .int (x2 + (-1)), .int ((xw mi 88 x2.toNatClampNeg ((mi 88 x2.toNatClampNeg) + 1)) 88 x2.toNatClampNeg), .int ((xw mi 88 x2.toNatClampNeg ((mi 88 x2.toNatClampNeg) + 1)) 87 ((7 * x2) + 6).toNatClampNeg)]) (st' := [.int (x2 + (-1)), .ref 68]) (by decide +kernel) (fun _ => rfl)).trans ?_
        refine (R_pure0 (ins := .iload 4) (len := 2) (loc' := [.ref 68, .int x1, .int (x2 + (-1)), .int ((xw mi 88 x2.toNatClampNeg ((mi 88 x2.toNatClampNeg) + 1)) 88 x2.toNatClampNeg), .int ((xw mi 88 x2.toNatClampNeg ((mi 88 x2.toNatClampNeg) + 1)) 87 ((7 * x2) + 6).toNatClampNeg)]) (st' := [.int ((xw mi 88 x2.toNatClampNeg ((mi 88 x2.toNatClampNeg) + 1)) 87 ((7 * x2) + 6).toNatClampNeg), .int (x2 + (-1)), .ref 68]) (by decide +kernel) (fun _ => rfl)).trans ?_
        refine (R_virt (i := 266) (f := 222) (kd := 0) (na := 2) (ml := 4) (ci := 10) (n := 33) (b := 68) (As := [.int (x2 + (-1)), .int ((xw mi 88 x2.toNatClampNeg ((mi 88 x2.toNatClampNeg) + 1)) 87 ((7 * x2) + 6).toNatClampNeg)]) (rest := []) (by decide +kernel) (by decide +kernel) (by decide) (by decide +kernel) rfl (by decide +kernel) rfl rfl (by decide +kernel) (Nat.le_of_ble_eq_true rfl)).trans ?_
        rfl
    · refine (R_pure0 (ins := .aload_n 0) (len := 1) (loc' := [.ref 68, .int x1, .int x2, .int ((xw mi 88 x2.toNatClampNeg ((mi 88 x2.toNatClampNeg) + 1)) 88 x2.toNatClampNeg), xmk]) (st' := [.ref 68]) (by decide +kernel) (fun _ => rfl)).trans ?_
      refine (R_gr (i := 75) (ci := 10) (k := 32) (n := 33) (b := 89) (by decide +kernel) (by decide +kernel) (by decide) rfl (SH_ref (by decide +kernel))).trans ?_
      refine (R_pure0 (ins := .iload_n 2) (len := 1) (loc' := [.ref 68, .int x1, .int x2, .int ((xw mi 88 x2.toNatClampNeg ((mi 88 x2.toNatClampNeg) + 1)) 88 x2.toNatClampNeg), xmk]) (st' := [.int x2, .ref 89]) (by decide +kernel) (fun _ => rfl)).trans ?_
      refine (R_iaload (kd := 100) (n := 6) (by decide +kernel) rfl (by decide) (h6 c0 c1)).trans ?_
      refine (R_pure0 (ins := .istore 4) (len := 2) (loc' := [.ref 68, .int x1, .int x2, .int ((xw mi 88 x2.toNatClampNeg ((mi 88 x2.toNatClampNeg) + 1)) 88 x2.toNatClampNeg), .int ((xw mi 88 x2.toNatClampNeg ((mi 88 x2.toNatClampNeg) + 1)) 89 x2.toNatClampNeg)]) (st' := []) (by decide +kernel) (fun _ => rfl)).trans ?_
      refine (R_pure0 (ins := .iload_n 2) (len := 1) (loc' := [.ref 68, .int x1, .int x2, .int ((xw mi 88 x2.toNatClampNeg ((mi 88 x2.toNatClampNeg) + 1)) 88 x2.toNatClampNeg), .int ((xw mi 88 x2.toNatClampNeg ((mi 88 x2.toNatClampNeg) + 1)) 89 x2.toNatClampNeg)]) (st' := [.int x2]) (by decide +kernel) (fun _ => rfl)).trans ?_
      refine (R_if_ne (off := 6) (t := 136) (by decide +kernel) (by decide +kernel)).trans (ite_congr rfl (fun c3 => ?_) (fun c3 => ?_))
      · refine (R_pure0 (ins := .iload 4) (len := 2) (loc' := [.ref 68, .int x1, .int x2, .int ((xw mi 88 x2.toNatClampNeg ((mi 88 x2.toNatClampNeg) + 1)) 88 x2.toNatClampNeg), .int ((xw mi 88 x2.toNatClampNeg ((mi 88 x2.toNatClampNeg) + 1)) 89 x2.toNatClampNeg)]) (st' := [.int ((xw mi 88 x2.toNatClampNeg ((mi 88 x2.toNatClampNeg) + 1)) 89 x2.toNatClampNeg)]) (by decide +kernel) (fun _ => rfl)).trans ?_
        exact R_ireturn (by decide +kernel) (by decide +kernel)
      · refine (R_iinc (k := 2) (n := (-1)) (x := x2) (v := (x2 + (-1))) (loc' := [.ref 68, .int x1, .int (x2 + (-1)), .int ((xw mi 88 x2.toNatClampNeg ((mi 88 x2.toNatClampNeg) + 1)) 88 x2.toNatClampNeg), .int ((xw mi 88 x2.toNatClampNeg ((mi 88 x2.toNatClampNeg) + 1)) 89 x2.toNatClampNeg)]) (by decide +kernel) rfl rfl rfl).trans ?_
        refine (R_pure0 (ins := .aload_n 0) (len := 1) (loc' := [.ref 68, .int x1, .int (x2 + (-1)), .int ((xw mi 88 x2.toNatClampNeg ((mi 88 x2.toNatClampNeg) + 1)) 88 x2.toNatClampNeg), .int ((xw mi 88 x2.toNatClampNeg ((mi 88 x2.toNatClampNeg) + 1)) 89 x2.toNatClampNeg)]) (st' := [.ref 68]) (by decide +kernel) (fun _ => rfl)).trans ?_
        refine (R_pure0 (ins := .iload_n 2) (len := 1) (loc' := [.ref 68, .int x1, .int (x2 + (-1)), .int ((xw mi 88 x2.toNatClampNeg ((mi 88 x2.toNatClampNeg) + 1)) 88 x2.toNatClampNeg), .int ((xw mi 88 x2.toNatClampNeg ((mi 88 x2.toNatClampNeg) + 1)) 89 x2.toNatClampNeg)]) (st' := [.int (x2 + (-1)), .ref 68]) (by decide +kernel) (fun _ => rfl)).trans ?_
        refine (R_pure0 (ins := .iload 4) (len := 2) (loc' := [.ref 68, .int x1, .int (x2 + (-1)), .int ((xw mi 88 x2.toNatClampNeg ((mi 88 x2.toNatClampNeg) + 1)) 88 x2.toNatClampNeg), .int ((xw mi 88 x2.toNatClampNeg ((mi 88 x2.toNatClampNeg) + 1)) 89 x2.toNatClampNeg)]) (st' := [.int ((xw mi 88 x2.toNatClampNeg ((mi 88 x2.toNatClampNeg) + 1)) 89 x2.toNatClampNeg), .int (x2 + (-1)), .ref 68]) (by decide +kernel) (fun _ => rfl)).trans ?_
        refine (R_virt (i := 266) (f := 222) (kd := 0) (na := 2) (ml := 4) (ci := 10) (n := 33) (b := 68) (As := [.int (x2 + (-1)), .int ((xw mi 88 x2.toNatClampNeg ((mi 88 x2.toNatClampNeg) + 1)) 89 x2.toNatClampNeg)]) (rest := []) (by decide +kernel) (by decide +kernel) (by decide) (by decide +kernel) rfl (by decide +kernel) rfl rfl (by decide +kernel) (Nat.le_of_ble_eq_true rfl)).trans ?_
        rfl
  · refine (R_pure0 (ins := .iload_n 3) (len := 1) (loc' := [.ref 68, .int x1, .int x2, .int ((xw mi 88 x2.toNatClampNeg ((mi 88 x2.toNatClampNeg) + 1)) 88 x2.toNatClampNeg), xmk]) (st' := [.int ((xw mi 88 x2.toNatClampNeg ((mi 88 x2.toNatClampNeg) + 1)) 88 x2.toNatClampNeg)]) (by decide +kernel) (fun _ => rfl)).trans ?_
    refine (R_pure0 (ins := .aload_n 0) (len := 1) (loc' := [.ref 68, .int x1, .int x2, .int ((xw mi 88 x2.toNatClampNeg ((mi 88 x2.toNatClampNeg) + 1)) 88 x2.toNatClampNeg), xmk]) (st' := [.ref 68, .int ((xw mi 88 x2.toNatClampNeg ((mi 88 x2.toNatClampNeg) + 1)) 88 x2.toNatClampNeg)]) (by decide +kernel) (fun _ => rfl)).trans ?_
    refine (R_gi (i := 131) (ci := 10) (k := 4) (n := 33) (by decide +kernel) (by decide +kernel) (by decide) rfl).trans ?_
    refine (R_icmp_lt (off := 57) (t := 149) (by decide +kernel) (by decide +kernel)).trans (ite_congr rfl (fun c4 => ?_) (fun c4 => ?_))
    · refine (R_pure0 (ins := .aload_n 0) (len := 1) (loc' := [.ref 68, .int x1, .int x2, .int ((xw mi 88 x2.toNatClampNeg ((mi 88 x2.toNatClampNeg) + 1)) 88 x2.toNatClampNeg), xmk]) (st' := [.ref 68]) (by decide +kernel) (fun _ => rfl)).trans ?_
      refine (R_pure0 (ins := .iload_n 3) (len := 1) (loc' := [.ref 68, .int x1, .int x2, .int ((xw mi 88 x2.toNatClampNeg ((mi 88 x2.toNatClampNeg) + 1)) 88 x2.toNatClampNeg), xmk]) (st' := [.int ((xw mi 88 x2.toNatClampNeg ((mi 88 x2.toNatClampNeg) + 1)) 88 x2.toNatClampNeg), .ref 68]) (by decide +kernel) (fun _ => rfl)).trans ?_
      refine (R_pure0 (ins := .aload_n 0) (len := 1) (loc' := [.ref 68, .int x1, .int x2, .int ((xw mi 88 x2.toNatClampNeg ((mi 88 x2.toNatClampNeg) + 1)) 88 x2.toNatClampNeg), xmk]) (st' := [.ref 68, .int ((xw mi 88 x2.toNatClampNeg ((mi 88 x2.toNatClampNeg) + 1)) 88 x2.toNatClampNeg), .ref 68]) (by decide +kernel) (fun _ => rfl)).trans ?_
      refine (R_gr (i := 69) (ci := 10) (k := 30) (n := 33) (b := 87) (by decide +kernel) (by decide +kernel) (by decide) rfl (SH_ref (by decide +kernel))).trans ?_
      refine (R_bipush (n := 7) (v := 7) (by decide +kernel) (by decide +kernel)).trans ?_
      refine (R_pure0 (ins := .iload_n 2) (len := 1) (loc' := [.ref 68, .int x1, .int x2, .int ((xw mi 88 x2.toNatClampNeg ((mi 88 x2.toNatClampNeg) + 1)) 88 x2.toNatClampNeg), xmk]) (st' := [.int x2, .int 7, .ref 87, .int ((xw mi 88 x2.toNatClampNeg ((mi 88 x2.toNatClampNeg) + 1)) 88 x2.toNatClampNeg), .ref 68]) (by decide +kernel) (fun _ => rfl)).trans ?_
      refine (R_pure0 (ins := .imul) (len := 1) (loc' := [.ref 68, .int x1, .int x2, .int ((xw mi 88 x2.toNatClampNeg ((mi 88 x2.toNatClampNeg) + 1)) 88 x2.toNatClampNeg), xmk]) (st' := [.int (7 * x2), .ref 87, .int ((xw mi 88 x2.toNatClampNeg ((mi 88 x2.toNatClampNeg) + 1)) 88 x2.toNatClampNeg), .ref 68]) (by decide +kernel) (fun _ => rfl)).trans ?_
      refine (R_pure0 (ins := .iload_n 3) (len := 1) (loc' := [.ref 68, .int x1, .int x2, .int ((xw mi 88 x2.toNatClampNeg ((mi 88 x2.toNatClampNeg) + 1)) 88 x2.toNatClampNeg), xmk]) (st' := [.int ((xw mi 88 x2.toNatClampNeg ((mi 88 x2.toNatClampNeg) + 1)) 88 x2.toNatClampNeg), .int (7 * x2), .ref 87, .int ((xw mi 88 x2.toNatClampNeg ((mi 88 x2.toNatClampNeg) + 1)) 88 x2.toNatClampNeg), .ref 68]) (by decide +kernel) (fun _ => rfl)).trans ?_
      refine (R_pure0 (ins := .iadd) (len := 1) (loc' := [.ref 68, .int x1, .int x2, .int ((xw mi 88 x2.toNatClampNeg ((mi 88 x2.toNatClampNeg) + 1)) 88 x2.toNatClampNeg), xmk]) (st' := [.int ((7 * x2) + ((xw mi 88 x2.toNatClampNeg ((mi 88 x2.toNatClampNeg) + 1)) 88 x2.toNatClampNeg)), .ref 87, .int ((xw mi 88 x2.toNatClampNeg ((mi 88 x2.toNatClampNeg) + 1)) 88 x2.toNatClampNeg), .ref 68]) (by decide +kernel) (fun _ => rfl)).trans ?_
      refine (R_iaload (kd := 100) (n := 42) (by decide +kernel) rfl (by decide) (h7 c0 c4)).trans ?_
      refine (R_virt (i := 163) (f := 182) (kd := 0) (na := 2) (ml := 3) (ci := 10) (n := 33) (b := 68) (As := [.int ((xw mi 88 x2.toNatClampNeg ((mi 88 x2.toNatClampNeg) + 1)) 88 x2.toNatClampNeg), .int ((xw mi 88 x2.toNatClampNeg ((mi 88 x2.toNatClampNeg) + 1)) 87 ((7 * x2) + ((xw mi 88 x2.toNatClampNeg ((mi 88 x2.toNatClampNeg) + 1)) 88 x2.toNatClampNeg)).toNatClampNeg)]) (rest := []) (by decide +kernel) (by decide +kernel) (by decide) (by decide +kernel) rfl (by decide +kernel) rfl rfl (by decide +kernel) (Nat.le_of_ble_eq_true rfl)).trans ?_
      rfl
    · refine (R_pure0 (ins := .aload_n 0) (len := 1) (loc' := [.ref 68, .int x1, .int x2, .int ((xw mi 88 x2.toNatClampNeg ((mi 88 x2.toNatClampNeg) + 1)) 88 x2.toNatClampNeg), xmk]) (st' := [.ref 68]) (by decide +kernel) (fun _ => rfl)).trans ?_
      refine (R_gr (i := 75) (ci := 10) (k := 32) (n := 33) (b := 89) (by decide +kernel) (by decide +kernel) (by decide) rfl (SH_ref (by decide +kernel))).trans ?_
      refine (R_pure0 (ins := .iload_n 2) (len := 1) (loc' := [.ref 68, .int x1, .int x2, .int ((xw mi 88 x2.toNatClampNeg ((mi 88 x2.toNatClampNeg) + 1)) 88 x2.toNatClampNeg), xmk]) (st' := [.int x2, .ref 89]) (by decide +kernel) (fun _ => rfl)).trans ?_
      refine (R_iaload (kd := 100) (n := 6) (by decide +kernel) rfl (by decide) (h8 c0 c4)).trans ?_
      refine (R_bipush (n := (-9)) (v := (-9)) (by decide +kernel) (by decide +kernel)).trans ?_
      refine (R_icmp_ne (off := 18) (t := 121) (by decide +kernel) (by decide +kernel)).trans (ite_congr rfl (fun c5 => ?_) (fun c5 => ?_))
      · refine (R_pure0 (ins := .aload_n 0) (len := 1) (loc' := [.ref 68, .int x1, .int x2, .int ((xw mi 88 x2.toNatClampNeg ((mi 88 x2.toNatClampNeg) + 1)) 88 x2.toNatClampNeg), xmk]) (st' := [.ref 68]) (by decide +kernel) (fun _ => rfl)).trans ?_
        refine (R_gr (i := 69) (ci := 10) (k := 30) (n := 33) (b := 87) (by decide +kernel) (by decide +kernel) (by decide) rfl (SH_ref (by decide +kernel))).trans ?_
        refine (R_bipush (n := 7) (v := 7) (by decide +kernel) (by decide +kernel)).trans ?_
        refine (R_pure0 (ins := .iload_n 2) (len := 1) (loc' := [.ref 68, .int x1, .int x2, .int ((xw mi 88 x2.toNatClampNeg ((mi 88 x2.toNatClampNeg) + 1)) 88 x2.toNatClampNeg), xmk]) (st' := [.int x2, .int 7, .ref 87]) (by decide +kernel) (fun _ => rfl)).trans ?_
        refine (R_pure0 (ins := .imul) (len := 1) (loc' := [.ref 68, .int x1, .int x2, .int ((xw mi 88 x2.toNatClampNeg ((mi 88 x2.toNatClampNeg) + 1)) 88 x2.toNatClampNeg), xmk]) (st' := [.int (7 * x2), .ref 87]) (by decide +kernel) (fun _ => rfl)).trans ?_
        refine (R_bipush (n := 6) (v := 6) (by decide +kernel) (by decide +kernel)).trans ?_
        refine (R_pure0 (ins := .iadd) (len := 1) (loc' := [.ref 68, .int x1, .int x2, .int ((xw mi 88 x2.toNatClampNeg ((mi 88 x2.toNatClampNeg) + 1)) 88 x2.toNatClampNeg), xmk]) (st' := [.int ((7 * x2) + 6), .ref 87]) (by decide +kernel) (fun _ => rfl)).trans ?_
        refine (R_iaload (kd := 100) (n := 42) (by decide +kernel) rfl (by decide) (h9 c0 c4 c5)).trans ?_
        refine (R_goto (off := 9) (t := 127) (by decide +kernel) (by decide +kernel)).trans ?_
        refine (R_pure0 (ins := .istore 4) (len := 2) (loc' := [.ref 68, .int x1, .int x2, .int ((xw mi 88 x2.toNatClampNeg ((mi 88 x2.toNatClampNeg) + 1)) 88 x2.toNatClampNeg), .int ((xw mi 88 x2.toNatClampNeg ((mi 88 x2.toNatClampNeg) + 1)) 87 ((7 * x2) + 6).toNatClampNeg)]) (st' := []) (by decide +kernel) (fun _ => rfl)).trans ?_
        refine (R_pure0 (ins := .iload_n 2) (len := 1) (loc' := [.ref 68, .int x1, .int x2, .int ((xw mi 88 x2.toNatClampNeg ((mi 88 x2.toNatClampNeg) + 1)) 88 x2.toNatClampNeg), .int ((xw mi 88 x2.toNatClampNeg ((mi 88 x2.toNatClampNeg) + 1)) 87 ((7 * x2) + 6).toNatClampNeg)]) (st' := [.int x2]) (by decide +kernel) (fun _ => rfl)).trans ?_
        refine (R_if_ne (off := 6) (t := 136) (by decide +kernel) (by decide +kernel)).trans (ite_congr rfl (fun c6 => ?_) (fun c6 => ?_))
        · refine (R_pure0 (ins := .iload 4) (len := 2) (loc' := [.ref 68, .int x1, .int x2, .int ((xw mi 88 x2.toNatClampNeg ((mi 88 x2.toNatClampNeg) + 1)) 88 x2.toNatClampNeg), .int ((xw mi 88 x2.toNatClampNeg ((mi 88 x2.toNatClampNeg) + 1)) 87 ((7 * x2) + 6).toNatClampNeg)]) (st' := [.int ((xw mi 88 x2.toNatClampNeg ((mi 88 x2.toNatClampNeg) + 1)) 87 ((7 * x2) + 6).toNatClampNeg)]) (by decide +kernel) (fun _ => rfl)).trans ?_
          exact R_ireturn (by decide +kernel) (by decide +kernel)
        · refine (R_iinc (k := 2) (n := (-1)) (x := x2) (v := (x2 + (-1))) (loc' := [.ref 68, .int x1, .int (x2 + (-1)), .int ((xw mi 88 x2.toNatClampNeg ((mi 88 x2.toNatClampNeg) + 1)) 88 x2.toNatClampNeg), .int ((xw mi 88 x2.toNatClampNeg ((mi 88 x2.toNatClampNeg) + 1)) 87 ((7 * x2) + 6).toNatClampNeg)]) (by decide +kernel) rfl rfl rfl).trans ?_
          refine (R_pure0 (ins := .aload_n 0) (len := 1) (loc' := [.ref 68, .int x1, .int (x2 + (-1)), .int ((xw mi 88 x2.toNatClampNeg ((mi 88 x2.toNatClampNeg) + 1)) 88 x2.toNatClampNeg), .int ((xw mi 88 x2.toNatClampNeg ((mi 88 x2.toNatClampNeg) + 1)) 87 ((7 * x2) + 6).toNatClampNeg)]) (st' := [.ref 68]) (by decide +kernel) (fun _ => rfl)).trans ?_
          refine (R_pure0 (ins := .iload_n 2) (len := 1) (loc' := [.ref 68, .int x1, .int (x2 + (-1)), .int ((xw mi 88 x2.toNatClampNeg ((mi 88 x2.toNatClampNeg) + 1)) 88 x2.toNatClampNeg), .int ((xw mi 88 x2.toNatClampNeg ((mi 88 x2.toNatClampNeg) + 1)) 87 ((7 * x2) + 6).toNatClampNeg)]) (st' := [.int (x2 + (-1)), .ref 68]) (by decide +kernel) (fun _ => rfl)).trans ?_
          refine (R_pure0 (ins := .iload 4) (len := 2) (loc' := [.ref 68, .int x1, .int (x2 + (-1)), .int ((xw mi 88 x2.toNatClampNeg ((mi 88 x2.toNatClampNeg) + 1)) 88 x2.toNatClampNeg), .int ((xw mi 88 x2.toNatClampNeg ((mi 88 x2.toNatClampNeg) + 1)) 87 ((7 * x2) + 6).toNatClampNeg)]) (st' := [.int ((xw mi 88 x2.toNatClampNeg ((mi 88 x2.toNatClampNeg) + 1)) 87 ((7 * x2) + 6).toNatClampNeg), .int (x2 + (-1)), .ref 68]) (by decide +kernel) (fun _ => rfl)).trans ?_
          refine (R_virt (i := 266) (f := 222) (kd := 0) (na := 2) (ml := 4) (ci := 10) (n := 33) (b := 68) (As := [.int (x2 + (-1)), .int ((xw mi 88 x2.toNatClampNeg ((mi 88 x2.toNatClampNeg) + 1)) 87 ((7 * x2) + 6).toNatClampNeg)]) (rest := []) (by decide +kernel) (by decide +kernel) (by decide) (by decide +kernel) rfl (by decide +kernel) rfl rfl (by decide +kernel) (Nat.le_of_ble_eq_true rfl)).trans ?_
          rfl
      · refine (R_pure0 (ins := .aload_n 0) (len := 1) (loc' := [.ref 68, .int x1, .int x2, .int ((xw mi 88 x2.toNatClampNeg ((mi 88 x2.toNatClampNeg) + 1)) 88 x2.toNatClampNeg), xmk]) (st' := [.ref 68]) (by decide +kernel) (fun _ => rfl)).trans ?_
        refine (R_gr (i := 75) (ci := 10) (k := 32) (n := 33) (b := 89) (by decide +kernel) (by decide +kernel) (by decide) rfl (SH_ref (by decide +kernel))).trans ?_
        refine (R_pure0 (ins := .iload_n 2) (len := 1) (loc' := [.ref 68, .int x1, .int x2, .int ((xw mi 88 x2.toNatClampNeg ((mi 88 x2.toNatClampNeg) + 1)) 88 x2.toNatClampNeg), xmk]) (st' := [.int x2, .ref 89]) (by decide +kernel) (fun _ => rfl)).trans ?_
        refine (R_iaload (kd := 100) (n := 6) (by decide +kernel) rfl (by decide) (h10 c0 c4 c5)).trans ?_
        refine (R_pure0 (ins := .istore 4) (len := 2) (loc' := [.ref 68, .int x1, .int x2, .int ((xw mi 88 x2.toNatClampNeg ((mi 88 x2.toNatClampNeg) + 1)) 88 x2.toNatClampNeg), .int ((xw mi 88 x2.toNatClampNeg ((mi 88 x2.toNatClampNeg) + 1)) 89 x2.toNatClampNeg)]) (st' := []) (by decide +kernel) (fun _ => rfl)).trans ?_
        refine (R_pure0 (ins := .iload_n 2) (len := 1) (loc' := [.ref 68, .int x1, .int x2, .int ((xw mi 88 x2.toNatClampNeg ((mi 88 x2.toNatClampNeg) + 1)) 88 x2.toNatClampNeg), .int ((xw mi 88 x2.toNatClampNeg ((mi 88 x2.toNatClampNeg) + 1)) 89 x2.toNatClampNeg)]) (st' := [.int x2]) (by decide +kernel) (fun _ => rfl)).trans ?_
        refine (R_if_ne (off := 6) (t := 136) (by decide +kernel) (by decide +kernel)).trans (ite_congr rfl (fun c7 => ?_) (fun c7 => ?_))
        · refine (R_pure0 (ins := .iload 4) (len := 2) (loc' := [.ref 68, .int x1, .int x2, .int ((xw mi 88 x2.toNatClampNeg ((mi 88 x2.toNatClampNeg) + 1)) 88 x2.toNatClampNeg), .int ((xw mi 88 x2.toNatClampNeg ((mi 88 x2.toNatClampNeg) + 1)) 89 x2.toNatClampNeg)]) (st' := [.int ((xw mi 88 x2.toNatClampNeg ((mi 88 x2.toNatClampNeg) + 1)) 89 x2.toNatClampNeg)]) (by decide +kernel) (fun _ => rfl)).trans ?_
          exact R_ireturn (by decide +kernel) (by decide +kernel)
        · refine (R_iinc (k := 2) (n := (-1)) (x := x2) (v := (x2 + (-1))) (loc' := [.ref 68, .int x1, .int (x2 + (-1)), .int ((xw mi 88 x2.toNatClampNeg ((mi 88 x2.toNatClampNeg) + 1)) 88 x2.toNatClampNeg), .int ((xw mi 88 x2.toNatClampNeg ((mi 88 x2.toNatClampNeg) + 1)) 89 x2.toNatClampNeg)]) (by decide +kernel) rfl rfl rfl).trans ?_
          refine (R_pure0 (ins := .aload_n 0) (len := 1) (loc' := [.ref 68, .int x1, .int (x2 + (-1)), .int ((xw mi 88 x2.toNatClampNeg ((mi 88 x2.toNatClampNeg) + 1)) 88 x2.toNatClampNeg), .int ((xw mi 88 x2.toNatClampNeg ((mi 88 x2.toNatClampNeg) + 1)) 89 x2.toNatClampNeg)]) (st' := [.ref 68]) (by decide +kernel) (fun _ => rfl)).trans ?_
          refine (R_pure0 (ins := .iload_n 2) (len := 1) (loc' := [.ref 68, .int x1, .int (x2 + (-1)), .int ((xw mi 88 x2.toNatClampNeg ((mi 88 x2.toNatClampNeg) + 1)) 88 x2.toNatClampNeg), .int ((xw mi 88 x2.toNatClampNeg ((mi 88 x2.toNatClampNeg) + 1)) 89 x2.toNatClampNeg)]) (st' := [.int (x2 + (-1)), .ref 68]) (by decide +kernel) (fun _ => rfl)).trans ?_
          refine (R_pure0 (ins := .iload 4) (len := 2) (loc' := [.ref 68, .int x1, .int (x2 + (-1)), .int ((xw mi 88 x2.toNatClampNeg ((mi 88 x2.toNatClampNeg) + 1)) 88 x2.toNatClampNeg), .int ((xw mi 88 x2.toNatClampNeg ((mi 88 x2.toNatClampNeg) + 1)) 89 x2.toNatClampNeg)]) (st' := [.int ((xw mi 88 x2.toNatClampNeg ((mi 88 x2.toNatClampNeg) + 1)) 89 x2.toNatClampNeg), .int (x2 + (-1)), .ref 68]) (by decide +kernel) (fun _ => rfl)).trans ?_
          refine (R_virt (i := 266) (f := 222) (kd := 0) (na := 2) (ml := 4) (ci := 10) (n := 33) (b := 68) (As := [.int (x2 + (-1)), .int ((xw mi 88 x2.toNatClampNeg ((mi 88 x2.toNatClampNeg) + 1)) 89 x2.toNatClampNeg)]) (rest := []) (by decide +kernel) (by decide +kernel) (by decide) (by decide +kernel) rfl (by decide +kernel) rfl rfl (by decide +kernel) (Nat.le_of_ble_eq_true rfl)).trans ?_
          rfl
theorem s223_146 {L : Nat} {mi : Nat → Nat → Int32} {ml : Nat → Nat → Int64} {d : Nat} {Q : Option Value → xM → Prop} {x1 x2 x3 x4 : Int32} : X 223 146 [.ref 68, .int x1, .int x2, .int x3, .int x4] [] (SH L, mi, ml, MR) d Q =
    X 223 65 [.ref 68, .int x1, .int x2, .int x3, .int x4] [] (SH L, mi, ml, MR) d Q := by
  refine (R_goto (off := 110) (t := 256) (by decide +kernel) (by decide +kernel)).trans ?_
  refine (R_goto (off := (-191)) (t := 65) (by decide +kernel) (by decide +kernel)).trans ?_
  rfl
theorem s223_165 {L : Nat} {mi : Nat → Nat → Int32} {ml : Nat → Nat → Int64} {d : Nat} {Q : Option Value → xM → Prop} {x1 x2 x3 y : Int32} : X 223 165 [.ref 68, .int x1, .int x2, .int x3, xmk] [.int y] (SH L, mi, ml, MR) (d + 1) Q =
    if (y = 0) then (X 223 65 [.ref 68, .int x1, .int x2, .int x3, xmk] [] (SH L, mi, ml, MR) (d + 1) Q) else (Xm 188 [.ref 87, .int (7 * x2), .ref 87, .int ((7 * x2) + 7), .int 7] (SH L, mi, ml, MR) d (fun v μ' => X 223 192 [.ref 68, .int x1, .int x2, .int x3, xmk] (v.toList ++ []) μ' (d + 1) Q)) := by
  refine (R_if_eq (off := 91) (t := 256) (by decide +kernel) (by decide +kernel)).trans (ite_congr rfl (fun c0 => ?_) (fun c0 => ?_))
  · refine (R_goto (off := (-191)) (t := 65) (by decide +kernel) (by decide +kernel)).trans ?_
    rfl
  · refine (R_pure0 (ins := .aload_n 0) (len := 1) (loc' := [.ref 68, .int x1, .int x2, .int x3, xmk]) (st' := [.ref 68]) (by decide +kernel) (fun _ => rfl)).trans ?_
    refine (R_gr (i := 69) (ci := 10) (k := 30) (n := 33) (b := 87) (by decide +kernel) (by decide +kernel) (by decide) rfl (SH_ref (by decide +kernel))).trans ?_
    refine (R_bipush (n := 7) (v := 7) (by decide +kernel) (by decide +kernel)).trans ?_
    refine (R_pure0 (ins := .iload_n 2) (len := 1) (loc' := [.ref 68, .int x1, .int x2, .int x3, xmk]) (st' := [.int x2, .int 7, .ref 87]) (by decide +kernel) (fun _ => rfl)).trans ?_
    refine (R_pure0 (ins := .imul) (len := 1) (loc' := [.ref 68, .int x1, .int x2, .int x3, xmk]) (st' := [.int (7 * x2), .ref 87]) (by decide +kernel) (fun _ => rfl)).trans ?_
    refine (R_pure0 (ins := .aload_n 0) (len := 1) (loc' := [.ref 68, .int x1, .int x2, .int x3, xmk]) (st' := [.ref 68, .int (7 * x2), .ref 87]) (by decide +kernel) (fun _ => rfl)).trans ?_
    refine (R_gr (i := 69) (ci := 10) (k := 30) (n := 33) (b := 87) (by decide +kernel) (by decide +kernel) (by decide) rfl (SH_ref (by decide +kernel))).trans ?_
    refine (R_bipush (n := 7) (v := 7) (by decide +kernel) (by decide +kernel)).trans ?_
    refine (R_pure0 (ins := .iload_n 2) (len := 1) (loc' := [.ref 68, .int x1, .int x2, .int x3, xmk]) (st' := [.int x2, .int 7, .ref 87, .int (7 * x2), .ref 87]) (by decide +kernel) (fun _ => rfl)).trans ?_
    refine (R_pure0 (ins := .imul) (len := 1) (loc' := [.ref 68, .int x1, .int x2, .int x3, xmk]) (st' := [.int (7 * x2), .ref 87, .int (7 * x2), .ref 87]) (by decide +kernel) (fun _ => rfl)).trans ?_
    refine (R_bipush (n := 7) (v := 7) (by decide +kernel) (by decide +kernel)).trans ?_
    refine (R_pure0 (ins := .iadd) (len := 1) (loc' := [.ref 68, .int x1, .int x2, .int x3, xmk]) (st' := [.int ((7 * x2) + 7), .ref 87, .int (7 * x2), .ref 87]) (by decide +kernel) (fun _ => rfl)).trans ?_
    refine (R_bipush (n := 7) (v := 7) (by decide +kernel) (by decide +kernel)).trans ?_
    refine (R_static (i := 184) (f := 188) (kd := 2) (na := 5) (ml := 6) (As := [.ref 87, .int (7 * x2), .ref 87, .int ((7 * x2) + 7), .int 7]) (rest := []) (by decide +kernel) (by decide +kernel) (by decide) (by decide +kernel) rfl rfl (by decide +kernel) (Nat.le_of_ble_eq_true rfl)).trans ?_
    rfl
theorem s223_65v2 {L : Nat} {mi : Nat → Nat → Int32} {ml : Nat → Nat → Int64} {d : Nat} {Q : Option Value → xM → Prop} {x1 x2 x3 x4 : Int32} (h1 : xin x2 6 = true) (h2 : xin x2 6 = true) (h3 : xin x2 6 = true) (h4 : (x2 = x1) → xin x2 6 = true) (h5 : (x2 = x1) → (((xw mi 88 x2.toNatClampNeg ((mi 88 x2.toNatClampNeg) + 1)) 89 x2.toNatClampNeg) = (-9)) → xin ((7 * x2) + 6) 42 = true) (h6 : (x2 = x1) → ¬ (((xw mi 88 x2.toNatClampNeg ((mi 88 x2.toNatClampNeg) + 1)) 89 x2.toNatClampNeg) = (-9)) → xin x2 6 = true) (h7 : ¬ (x2 = x1) → (((xw mi 88 x2.toNatClampNeg ((mi 88 x2.toNatClampNeg) + 1)) 88 x2.toNatClampNeg) < ((xw mi 88 x2.toNatClampNeg ((mi 88 x2.toNatClampNeg) + 1)) 68 4)) → xin ((7 * x2) + ((xw mi 88 x2.toNatClampNeg ((mi 88 x2.toNatClampNeg) + 1)) 88 x2.toNatClampNeg)) 42 = true) (h8 : ¬ (x2 = x1) → ¬ (((xw mi 88 x2.toNatClampNeg ((mi 88 x2.toNatClampNeg) + 1)) 88 x2.toNatClampNeg) < ((xw mi 88 x2.toNatClampNeg ((mi 88 x2.toNatClampNeg) + 1)) 68 4)) → xin x2 6 = true) (h9 : ¬ (x2 = x1) → ¬ (((xw mi 88 x2.toNatClampNeg ((mi 88 x2.toNatClampNeg) + 1)) 88 x2.toNatClampNeg) < ((xw mi 88 x2.toNatClampNeg ((mi 88 x2.toNatClampNeg) + 1)) 68 4)) → (((xw mi 88 x2.toNatClampNeg ((mi 88 x2.toNatClampNeg) + 1)) 89 x2.toNatClampNeg) = (-9)) → xin ((7 * x2) + 6) 42 = true) (h10 : ¬ (x2 = x1) → ¬ (((xw mi 88 x2.toNatClampNeg ((mi 88 x2.toNatClampNeg) + 1)) 88 x2.toNatClampNeg) < ((xw mi 88 x2.toNatClampNeg ((mi 88 x2.toNatClampNeg) + 1)) 68 4)) → ¬ (((xw mi 88 x2.toNatClampNeg ((mi 88 x2.toNatClampNeg) + 1)) 89 x2.toNatClampNeg) = (-9)) → xin x2 6 = true) : X 223 65 [.ref 68, .int x1, .int x2, .int x3, .int x4] [] (SH L, mi, ml, MR) (d + 1) Q =
    if (x2 = x1) then (if (((xw mi 88 x2.toNatClampNeg ((mi 88 x2.toNatClampNeg) + 1)) 89 x2.toNatClampNeg) = (-9)) then (if (x2 = 0) then (Q (some (.int ((xw mi 88 x2.toNatClampNeg ((mi 88 x2.toNatClampNeg) + 1)) 87 ((7 * x2) + 6).toNatClampNeg))) (SH L, (xw mi 88 x2.toNatClampNeg ((mi 88 x2.toNatClampNeg) + 1)), ml, MR)) else (Xm 222 [.ref 68, .int (x2 + (-1)), .int ((xw mi 88 x2.toNatClampNeg ((mi 88 x2.toNatClampNeg) + 1)) 87 ((7 * x2) + 6).toNatClampNeg)] (SH L, (xw mi 88 x2.toNatClampNeg ((mi 88 x2.toNatClampNeg) + 1)), ml, MR) d (fun v μ' => X 223 146 [.ref 68, .int x1, .int (x2 + (-1)), .int ((xw mi 88 x2.toNatClampNeg ((mi 88 x2.toNatClampNeg) + 1)) 88 x2.toNatClampNeg), .int ((xw mi 88 x2.toNatClampNeg ((mi 88 x2.toNatClampNeg) + 1)) 87 ((7 * x2) + 6).toNatClampNeg)] (v.toList ++ []) μ' (d + 1) Q))) else (if (x2 = 0) then (Q (some (.int ((xw mi 88 x2.toNatClampNeg ((mi 88 x2.toNatClampNeg) + 1)) 89 x2.toNatClampNeg))) (SH L, (xw mi 88 x2.toNatClampNeg ((mi 88 x2.toNatClampNeg) + 1)), ml, MR)) else (Xm 222 [.ref 68, .int (x2 + (-1)), .int ((xw mi 88 x2.toNatClampNeg ((mi 88 x2.toNatClampNeg) + 1)) 89 x2.toNatClampNeg)] (SH L, (xw mi 88 x2.toNatClampNeg ((mi 88 x2.toNatClampNeg) + 1)), ml, MR) d (fun v μ' => X 223 146 [.ref 68, .int x1, .int (x2 + (-1)), .int ((xw mi 88 x2.toNatClampNeg ((mi 88 x2.toNatClampNeg) + 1)) 88 x2.toNatClampNeg), .int ((xw mi 88 x2.toNatClampNeg ((mi 88 x2.toNatClampNeg) + 1)) 89 x2.toNatClampNeg)] (v.toList ++ []) μ' (d + 1) Q)))) else (if (((xw mi 88 x2.toNatClampNeg ((mi 88 x2.toNatClampNeg) + 1)) 88 x2.toNatClampNeg) < ((xw mi 88 x2.toNatClampNeg ((mi 88 x2.toNatClampNeg) + 1)) 68 4)) then (Xm 182 [.ref 68, .int ((xw mi 88 x2.toNatClampNeg ((mi 88 x2.toNatClampNeg) + 1)) 88 x2.toNatClampNeg), .int ((xw mi 88 x2.toNatClampNeg ((mi 88 x2.toNatClampNeg) + 1)) 87 ((7 * x2) + ((xw mi 88 x2.toNatClampNeg ((mi 88 x2.toNatClampNeg) + 1)) 88 x2.toNatClampNeg)).toNatClampNeg)] (SH L, (xw mi 88 x2.toNatClampNeg ((mi 88 x2.toNatClampNeg) + 1)), ml, MR) d (fun v μ' => X 223 165 [.ref 68, .int x1, .int x2, .int ((xw mi 88 x2.toNatClampNeg ((mi 88 x2.toNatClampNeg) + 1)) 88 x2.toNatClampNeg), .int x4] (v.toList ++ []) μ' (d + 1) Q)) else (if (((xw mi 88 x2.toNatClampNeg ((mi 88 x2.toNatClampNeg) + 1)) 89 x2.toNatClampNeg) = (-9)) then (if (x2 = 0) then (Q (some (.int ((xw mi 88 x2.toNatClampNeg ((mi 88 x2.toNatClampNeg) + 1)) 87 ((7 * x2) + 6).toNatClampNeg))) (SH L, (xw mi 88 x2.toNatClampNeg ((mi 88 x2.toNatClampNeg) + 1)), ml, MR)) else (Xm 222 [.ref 68, .int (x2 + (-1)), .int ((xw mi 88 x2.toNatClampNeg ((mi 88 x2.toNatClampNeg) + 1)) 87 ((7 * x2) + 6).toNatClampNeg)] (SH L, (xw mi 88 x2.toNatClampNeg ((mi 88 x2.toNatClampNeg) + 1)), ml, MR) d (fun v μ' => X 223 146 [.ref 68, .int x1, .int (x2 + (-1)), .int ((xw mi 88 x2.toNatClampNeg ((mi 88 x2.toNatClampNeg) + 1)) 88 x2.toNatClampNeg), .int ((xw mi 88 x2.toNatClampNeg ((mi 88 x2.toNatClampNeg) + 1)) 87 ((7 * x2) + 6).toNatClampNeg)] (v.toList ++ []) μ' (d + 1) Q))) else (if (x2 = 0) then (Q (some (.int ((xw mi 88 x2.toNatClampNeg ((mi 88 x2.toNatClampNeg) + 1)) 89 x2.toNatClampNeg))) (SH L, (xw mi 88 x2.toNatClampNeg ((mi 88 x2.toNatClampNeg) + 1)), ml, MR)) else (Xm 222 [.ref 68, .int (x2 + (-1)), .int ((xw mi 88 x2.toNatClampNeg ((mi 88 x2.toNatClampNeg) + 1)) 89 x2.toNatClampNeg)] (SH L, (xw mi 88 x2.toNatClampNeg ((mi 88 x2.toNatClampNeg) + 1)), ml, MR) d (fun v μ' => X 223 146 [.ref 68, .int x1, .int (x2 + (-1)), .int ((xw mi 88 x2.toNatClampNeg ((mi 88 x2.toNatClampNeg) + 1)) 88 x2.toNatClampNeg), .int ((xw mi 88 x2.toNatClampNeg ((mi 88 x2.toNatClampNeg) + 1)) 89 x2.toNatClampNeg)] (v.toList ++ []) μ' (d + 1) Q))))) := by
  refine (R_pure0 (ins := .aload_n 0) (len := 1) (loc' := [.ref 68, .int x1, .int x2, .int x3, .int x4]) (st' := [.ref 68]) (by decide +kernel) (fun _ => rfl)).trans ?_
  refine (R_gr (i := 72) (ci := 10) (k := 31) (n := 33) (b := 88) (by decide +kernel) (by decide +kernel) (by decide) rfl (SH_ref (by decide +kernel))).trans ?_
  refine (R_pure0 (ins := .iload_n 2) (len := 1) (loc' := [.ref 68, .int x1, .int x2, .int x3, .int x4]) (st' := [.int x2, .ref 88]) (by decide +kernel) (fun _ => rfl)).trans ?_
  refine (R_pure0 (ins := .dup2) (len := 1) (loc' := [.ref 68, .int x1, .int x2, .int x3, .int x4]) (st' := [.int x2, .ref 88, .int x2, .ref 88]) (by decide +kernel) (fun _ => rfl)).trans ?_
  refine (R_iaload (kd := 100) (n := 6) (by decide +kernel) rfl (by decide) (h1)).trans ?_
  refine (R_iconst (n := 1) (v := 1) (by decide +kernel) (by decide +kernel)).trans ?_
  refine (R_pure0 (ins := .iadd) (len := 1) (loc' := [.ref 68, .int x1, .int x2, .int x3, .int x4]) (st' := [.int ((mi 88 x2.toNatClampNeg) + 1), .int x2, .ref 88]) (by decide +kernel) (fun _ => rfl)).trans ?_
  refine (R_iastore (n := 6) (by decide +kernel) rfl (h2)).trans ?_
  refine (R_pure0 (ins := .aload_n 0) (len := 1) (loc' := [.ref 68, .int x1, .int x2, .int x3, .int x4]) (st' := [.ref 68]) (by decide +kernel) (fun _ => rfl)).trans ?_
  refine (R_gr (i := 72) (ci := 10) (k := 31) (n := 33) (b := 88) (by decide +kernel) (by decide +kernel) (by decide) rfl (SH_ref (by decide +kernel))).trans ?_
  refine (R_pure0 (ins := .iload_n 2) (len := 1) (loc' := [.ref 68, .int x1, .int x2, .int x3, .int x4]) (st' := [.int x2, .ref 88]) (by decide +kernel) (fun _ => rfl)).trans ?_
  refine (R_iaload (kd := 100) (n := 6) (by decide +kernel) rfl (by decide) (h3)).trans ?_
  refine (R_pure0 (ins := .istore_n 3) (len := 1) (loc' := [.ref 68, .int x1, .int x2, .int ((xw mi 88 x2.toNatClampNeg ((mi 88 x2.toNatClampNeg) + 1)) 88 x2.toNatClampNeg), .int x4]) (st' := []) (by decide +kernel) (fun _ => rfl)).trans ?_
  refine (R_pure0 (ins := .iload_n 2) (len := 1) (loc' := [.ref 68, .int x1, .int x2, .int ((xw mi 88 x2.toNatClampNeg ((mi 88 x2.toNatClampNeg) + 1)) 88 x2.toNatClampNeg), .int x4]) (st' := [.int x2]) (by decide +kernel) (fun _ => rfl)).trans ?_
  refine (R_pure0 (ins := .iload_n 1) (len := 1) (loc' := [.ref 68, .int x1, .int x2, .int ((xw mi 88 x2.toNatClampNeg ((mi 88 x2.toNatClampNeg) + 1)) 88 x2.toNatClampNeg), .int x4]) (st' := [.int x1, .int x2]) (by decide +kernel) (fun _ => rfl)).trans ?_
  refine (R_icmp_eq (off := 11) (t := 95) (by decide +kernel) (by decide +kernel)).trans (ite_congr rfl (fun c0 => ?_) (fun c0 => ?_))
  · refine (R_pure0 (ins := .aload_n 0) (len := 1) (loc' := [.ref 68, .int x1, .int x2, .int ((xw mi 88 x2.toNatClampNeg ((mi 88 x2.toNatClampNeg) + 1)) 88 x2.toNatClampNeg), .int x4]) (st' := [.ref 68]) (by decide +kernel) (fun _ => rfl)).trans ?_
    refine (R_gr (i := 75) (ci := 10) (k := 32) (n := 33) (b := 89) (by decide +kernel) (by decide +kernel) (by decide) rfl (SH_ref (by decide +kernel))).trans ?_
    refine (R_pure0 (ins := .iload_n 2) (len := 1) (loc' := [.ref 68, .int x1, .int x2, .int ((xw mi 88 x2.toNatClampNeg ((mi 88 x2.toNatClampNeg) + 1)) 88 x2.toNatClampNeg), .int x4]) (st' := [.int x2, .ref 89]) (by decide +kernel) (fun _ => rfl)).trans ?_
    refine (R_iaload (kd := 100) (n := 6) (by decide +kernel) rfl (by decide) (h4 c0)).trans ?_
    refine (R_bipush (n := (-9)) (v := (-9)) (by decide +kernel) (by decide +kernel)).trans ?_
    refine (R_icmp_ne (off := 18) (t := 121) (by decide +kernel) (by decide +kernel)).trans (ite_congr rfl (fun c1 => ?_) (fun c1 => ?_))
    · refine (R_pure0 (ins := .aload_n 0) (len := 1) (loc' := [.ref 68, .int x1, .int x2, .int ((xw mi 88 x2.toNatClampNeg ((mi 88 x2.toNatClampNeg) + 1)) 88 x2.toNatClampNeg), .int x4]) (st' := [.ref 68]) (by decide +kernel) (fun _ => rfl)).trans ?_
      refine (R_gr (i := 69) (ci := 10) (k := 30) (n := 33) (b := 87) (by decide +kernel) (by decide +kernel) (by decide) rfl (SH_ref (by decide +kernel))).trans ?_
      refine (R_bipush (n := 7) (v := 7) (by decide +kernel) (by decide +kernel)).trans ?_
      refine (R_pure0 (ins := .iload_n 2) (len := 1) (loc' := [.ref 68, .int x1, .int x2, .int ((xw mi 88 x2.toNatClampNeg ((mi 88 x2.toNatClampNeg) + 1)) 88 x2.toNatClampNeg), .int x4]) (st' := [.int x2, .int 7, .ref 87]) (by decide +kernel) (fun _ => rfl)).trans ?_
      refine (R_pure0 (ins := .imul) (len := 1) (loc' := [.ref 68, .int x1, .int x2, .int ((xw mi 88 x2.toNatClampNeg ((mi 88 x2.toNatClampNeg) + 1)) 88 x2.toNatClampNeg), .int x4]) (st' := [.int (7 * x2), .ref 87]) (by decide +kernel) (fun _ => rfl)).trans ?_
      refine (R_bipush (n := 6) (v := 6) (by decide +kernel) (by decide +kernel)).trans ?_
      refine (R_pure0 (ins := .iadd) (len := 1) (loc' := [.ref 68, .int x1, .int x2, .int ((xw mi 88 x2.toNatClampNeg ((mi 88 x2.toNatClampNeg) + 1)) 88 x2.toNatClampNeg), .int x4]) (st' := [.int ((7 * x2) + 6), .ref 87]) (by decide +kernel) (fun _ => rfl)).trans ?_
      refine (R_iaload (kd := 100) (n := 42) (by decide +kernel) rfl (by decide) (h5 c0 c1)).trans ?_
      refine (R_goto (off := 9) (t := 127) (by decide +kernel) (by decide +kernel)).trans ?_
      refine (R_pure0 (ins := .istore 4) (len := 2) (loc' := [.ref 68, .int x1, .int x2, .int ((xw mi 88 x2.toNatClampNeg ((mi 88 x2.toNatClampNeg) + 1)) 88 x2.toNatClampNeg), .int ((xw mi 88 x2.toNatClampNeg ((mi 88 x2.toNatClampNeg) + 1)) 87 ((7 * x2) + 6).toNatClampNeg)]) (st' := []) (by decide +kernel) (fun _ => rfl)).trans ?_
      refine (R_pure0 (ins := .iload_n 2) (len := 1) (loc' := [.ref 68, .int x1, .int x2, .int ((xw mi 88 x2.toNatClampNeg ((mi 88 x2.toNatClampNeg) + 1)) 88 x2.toNatClampNeg), .int ((xw mi 88 x2.toNatClampNeg ((mi 88 x2.toNatClampNeg) + 1)) 87 ((7 * x2) + 6).toNatClampNeg)]) (st' := [.int x2]) (by decide +kernel) (fun _ => rfl)).trans ?_
      refine (R_if_ne (off := 6) (t := 136) (by decide +kernel) (by decide +kernel)).trans (ite_congr rfl (fun c2 => ?_) (fun c2 => ?_))
      · refine (R_pure0 (ins := .iload 4) (len := 2) (loc' := [.ref 68, .int x1, .int x2, .int ((xw mi 88 x2.toNatClampNeg ((mi 88 x2.toNatClampNeg) + 1)) 88 x2.toNatClampNeg), .int ((xw mi 88 x2.toNatClampNeg ((mi 88 x2.toNatClampNeg) + 1)) 87 ((7 * x2) + 6).toNatClampNeg)]) (st' := [.int ((xw mi 88 x2.toNatClampNeg ((mi 88 x2.toNatClampNeg) + 1)) 87 ((7 * x2) + 6).toNatClampNeg)]) (by decide +kernel) (fun _ => rfl)).trans ?_
        exact R_ireturn (by decide +kernel) (by decide +kernel)
      · refine (R_iinc (k := 2) (n := (-1)) (x := x2) (v := (x2 + (-1))) (loc' := [.ref 68, .int x1, .int (x2 + (-1)), .int ((xw mi 88 x2.toNatClampNeg ((mi 88 x2.toNatClampNeg) + 1)) 88 x2.toNatClampNeg), .int ((xw mi 88 x2.toNatClampNeg ((mi 88 x2.toNatClampNeg) + 1)) 87 ((7 * x2) + 6).toNatClampNeg)]) (by decide +kernel) rfl rfl rfl).trans ?_
        refine (R_pure0 (ins := .aload_n 0) (len := 1) (loc' := [.ref 68, .int x1, .int (x2 + (-1)), .int ((xw mi 88 x2.toNatClampNeg ((mi 88 x2.toNatClampNeg) + 1)) 88 x2.toNatClampNeg), .int ((xw mi 88 x2.toNatClampNeg ((mi 88 x2.toNatClampNeg) + 1)) 87 ((7 * x2) + 6).toNatClampNeg)]) (st' := [.ref 68]) (by decide +kernel) (fun _ => rfl)).trans ?_
        refine (R_pure0 (ins := .iload_n 2) (len := 1) (loc' := [.ref 68, .int x1, .int (x2 + (-1)), .int ((xw mi 88 x2.toNatClampNeg ((mi 88 x2.toNatClampNeg) + 1)) 88 x2.toNatClampNeg), .int ((xw mi 88 x2.toNatClampNeg ((mi 88 x2.toNatClampNeg) + 1)) 87 ((7 * x2) + 6).toNatClampNeg)]) (st' := [.int (x2 + (-1)), .ref 68]) (by decide +kernel) (fun _ => rfl)).trans ?_
        refine (R_pure0 (ins := .iload 4) (len := 2) (loc' := [.ref 68, .int x1, .int (x2 + (-1)), .int ((xw mi 88 x2.toNatClampNeg ((mi 88 x2.toNatClampNeg) + 1)) 88 x2.toNatClampNeg), .int ((xw mi 88 x2.toNatClampNeg ((mi 88 x2.toNatClampNeg) + 1)) 87 ((7 * x2) + 6).toNatClampNeg)]) (st' := [.int ((xw mi 88 x2.toNatClampNeg ((mi 88 x2.toNatClampNeg) + 1)) 87 ((7 * x2) + 6).toNatClampNeg), .int (x2 + (-1)), .ref 68]) (by decide +kernel) (fun _ => rfl)).trans ?_
        refine (R_virt (i := 266) (f := 222) (kd := 0) (na := 2) (ml := 4) (ci := 10) (n := 33) (b := 68) (As := [.int (x2 + (-1)), .int ((xw mi 88 x2.toNatClampNeg ((mi 88 x2.toNatClampNeg) + 1)) 87 ((7 * x2) + 6).toNatClampNeg)]) (rest := []) (by decide +kernel) (by decide +kernel) (by decide) (by decide +kernel) rfl (by decide +kernel) rfl rfl (by decide +kernel) (Nat.le_of_ble_eq_true rfl)).trans ?_
        rfl
    · refine (R_pure0 (ins := .aload_n 0) (len := 1) (loc' := [.ref 68, .int x1, .int x2, .int ((xw mi 88 x2.toNatClampNeg ((mi 88 x2.toNatClampNeg) + 1)) 88 x2.toNatClampNeg), .int x4]) (st' := [.ref 68]) (by decide +kernel) (fun _ => rfl)).trans ?_
      refine (R_gr (i := 75) (ci := 10) (k := 32) (n := 33) (b := 89) (by decide +kernel) (by decide +kernel) (by decide) rfl (SH_ref (by decide +kernel))).trans ?_
      refine (R_pure0 (ins := .iload_n 2) (len := 1) (loc' := [.ref 68, .int x1, .int x2, .int ((xw mi 88 x2.toNatClampNeg ((mi 88 x2.toNatClampNeg) + 1)) 88 x2.toNatClampNeg), .int x4]) (st' := [.int x2, .ref 89]) (by decide +kernel) (fun _ => rfl)).trans ?_
      refine (R_iaload (kd := 100) (n := 6) (by decide +kernel) rfl (by decide) (h6 c0 c1)).trans ?_
      refine (R_pure0 (ins := .istore 4) (len := 2) (loc' := [.ref 68, .int x1, .int x2, .int ((xw mi 88 x2.toNatClampNeg ((mi 88 x2.toNatClampNeg) + 1)) 88 x2.toNatClampNeg), .int ((xw mi 88 x2.toNatClampNeg ((mi 88 x2.toNatClampNeg) + 1)) 89 x2.toNatClampNeg)]) (st' := []) (by decide +kernel) (fun _ => rfl)).trans ?_
      refine (R_pure0 (ins := .iload_n 2) (len := 1) (loc' := [.ref 68, .int x1, .int x2, .int ((xw mi 88 x2.toNatClampNeg ((mi 88 x2.toNatClampNeg) + 1)) 88 x2.toNatClampNeg), .int ((xw mi 88 x2.toNatClampNeg ((mi 88 x2.toNatClampNeg) + 1)) 89 x2.toNatClampNeg)]) (st' := [.int x2]) (by decide +kernel) (fun _ => rfl)).trans ?_
      refine (R_if_ne (off := 6) (t := 136) (by decide +kernel) (by decide +kernel)).trans (ite_congr rfl (fun c3 => ?_) (fun c3 => ?_))
      · refine (R_pure0 (ins := .iload 4) (len := 2) (loc' := [.ref 68, .int x1, .int x2, .int ((xw mi 88 x2.toNatClampNeg ((mi 88 x2.toNatClampNeg) + 1)) 88 x2.toNatClampNeg), .int ((xw mi 88 x2.toNatClampNeg ((mi 88 x2.toNatClampNeg) + 1)) 89 x2.toNatClampNeg)]) (st' := [.int ((xw mi 88 x2.toNatClampNeg ((mi 88 x2.toNatClampNeg) + 1)) 89 x2.toNatClampNeg)]) (by decide +kernel) (fun _ => rfl)).trans ?_
        exact R_ireturn (by decide +kernel) (by decide +kernel)
      · refine (R_iinc (k := 2) (n := (-1)) (x := x2) (v := (x2 + (-1))) (loc' := [.ref 68, .int x1, .int (x2 + (-1)), .int ((xw mi 88 x2.toNatClampNeg ((mi 88 x2.toNatClampNeg) + 1)) 88 x2.toNatClampNeg), .int ((xw mi 88 x2.toNatClampNeg ((mi 88 x2.toNatClampNeg) + 1)) 89 x2.toNatClampNeg)]) (by decide +kernel) rfl rfl rfl).trans ?_
        refine (R_pure0 (ins := .aload_n 0) (len := 1) (loc' := [.ref 68, .int x1, .int (x2 + (-1)), .int ((xw mi 88 x2.toNatClampNeg ((mi 88 x2.toNatClampNeg) + 1)) 88 x2.toNatClampNeg), .int ((xw mi 88 x2.toNatClampNeg ((mi 88 x2.toNatClampNeg) + 1)) 89 x2.toNatClampNeg)]) (st' := [.ref 68]) (by decide +kernel) (fun _ => rfl)).trans ?_
        refine (R_pure0 (ins := .iload_n 2) (len := 1) (loc' := [.ref 68, .int x1, .int (x2 + (-1)), .int ((xw mi 88 x2.toNatClampNeg ((mi 88 x2.toNatClampNeg) + 1)) 88 x2.toNatClampNeg), .int ((xw mi 88 x2.toNatClampNeg ((mi 88 x2.toNatClampNeg) + 1)) 89 x2.toNatClampNeg)]) (st' := [.int (x2 + (-1)), .ref 68]) (by decide +kernel) (fun _ => rfl)).trans ?_
        refine (R_pure0 (ins := .iload 4) (len := 2) (loc' := [.ref 68, .int x1, .int (x2 + (-1)), .int ((xw mi 88 x2.toNatClampNeg ((mi 88 x2.toNatClampNeg) + 1)) 88 x2.toNatClampNeg), .int ((xw mi 88 x2.toNatClampNeg ((mi 88 x2.toNatClampNeg) + 1)) 89 x2.toNatClampNeg)]) (st' := [.int ((xw mi 88 x2.toNatClampNeg ((mi 88 x2.toNatClampNeg) + 1)) 89 x2.toNatClampNeg), .int (x2 + (-1)), .ref 68]) (by decide +kernel) (fun _ => rfl)).trans ?_
        refine (R_virt (i := 266) (f := 222) (kd := 0) (na := 2) (ml := 4) (ci := 10) (n := 33) (b := 68) (As := [.int (x2 + (-1)), .int ((xw mi 88 x2.toNatClampNeg ((mi 88 x2.toNatClampNeg) + 1)) 89 x2.toNatClampNeg)]) (rest := []) (by decide +kernel) (by decide +kernel) (by decide) (by decide +kernel) rfl (by decide +kernel) rfl rfl (by decide +kernel) (Nat.le_of_ble_eq_true rfl)).trans ?_
        rfl
  · refine (R_pure0 (ins := .iload_n 3) (len := 1) (loc' := [.ref 68, .int x1, .int x2, .int ((xw mi 88 x2.toNatClampNeg ((mi 88 x2.toNatClampNeg) + 1)) 88 x2.toNatClampNeg), .int x4]) (st' := [.int ((xw mi 88 x2.toNatClampNeg ((mi 88 x2.toNatClampNeg) + 1)) 88 x2.toNatClampNeg)]) (by decide +kernel) (fun _ => rfl)).trans ?_
    refine (R_pure0 (ins := .aload_n 0) (len := 1) (loc' := [.ref 68, .int x1, .int x2, .int ((xw mi 88 x2.toNatClampNeg ((mi 88 x2.toNatClampNeg) + 1)) 88 x2.toNatClampNeg), .int x4]) (st' := [.ref 68, .int ((xw mi 88 x2.toNatClampNeg ((mi 88 x2.toNatClampNeg) + 1)) 88 x2.toNatClampNeg)]) (by decide +kernel) (fun _ => rfl)).trans ?_
    refine (R_gi (i := 131) (ci := 10) (k := 4) (n := 33) (by decide +kernel) (by decide +kernel) (by decide) rfl).trans ?_
    refine (R_icmp_lt (off := 57) (t := 149) (by decide +kernel) (by decide +kernel)).trans (ite_congr rfl (fun c4 => ?_) (fun c4 => ?_))
    · refine (R_pure0 (ins := .aload_n 0) (len := 1) (loc' := [.ref 68, .int x1, .int x2, .int ((xw mi 88 x2.toNatClampNeg ((mi 88 x2.toNatClampNeg) + 1)) 88 x2.toNatClampNeg), .int x4]) (st' := [.ref 68]) (by decide +kernel) (fun _ => rfl)).trans ?_
      refine (R_pure0 (ins := .iload_n 3) (len := 1) (loc' := [.ref 68, .int x1, .int x2, .int ((xw mi 88 x2.toNatClampNeg ((mi 88 x2.toNatClampNeg) + 1)) 88 x2.toNatClampNeg), .int x4]) (st' := [.int ((xw mi 88 x2.toNatClampNeg ((mi 88 x2.toNatClampNeg) + 1)) 88 x2.toNatClampNeg), .ref 68]) (by decide +kernel) (fun _ => rfl)).trans ?_
      refine (R_pure0 (ins := .aload_n 0) (len := 1) (loc' := [.ref 68, .int x1, .int x2, .int ((xw mi 88 x2.toNatClampNeg ((mi 88 x2.toNatClampNeg) + 1)) 88 x2.toNatClampNeg), .int x4]) (st' := [.ref 68, .int ((xw mi 88 x2.toNatClampNeg ((mi 88 x2.toNatClampNeg) + 1)) 88 x2.toNatClampNeg), .ref 68]) (by decide +kernel) (fun _ => rfl)).trans ?_
      refine (R_gr (i := 69) (ci := 10) (k := 30) (n := 33) (b := 87) (by decide +kernel) (by decide +kernel) (by decide) rfl (SH_ref (by decide +kernel))).trans ?_
      refine (R_bipush (n := 7) (v := 7) (by decide +kernel) (by decide +kernel)).trans ?_
      refine (R_pure0 (ins := .iload_n 2) (len := 1) (loc' := [.ref 68, .int x1, .int x2, .int ((xw mi 88 x2.toNatClampNeg ((mi 88 x2.toNatClampNeg) + 1)) 88 x2.toNatClampNeg), .int x4]) (st' := [.int x2, .int 7, .ref 87, .int ((xw mi 88 x2.toNatClampNeg ((mi 88 x2.toNatClampNeg) + 1)) 88 x2.toNatClampNeg), .ref 68]) (by decide +kernel) (fun _ => rfl)).trans ?_
      refine (R_pure0 (ins := .imul) (len := 1) (loc' := [.ref 68, .int x1, .int x2, .int ((xw mi 88 x2.toNatClampNeg ((mi 88 x2.toNatClampNeg) + 1)) 88 x2.toNatClampNeg), .int x4]) (st' := [.int (7 * x2), .ref 87, .int ((xw mi 88 x2.toNatClampNeg ((mi 88 x2.toNatClampNeg) + 1)) 88 x2.toNatClampNeg), .ref 68]) (by decide +kernel) (fun _ => rfl)).trans ?_
      refine (R_pure0 (ins := .iload_n 3) (len := 1) (loc' := [.ref 68, .int x1, .int x2, .int ((xw mi 88 x2.toNatClampNeg ((mi 88 x2.toNatClampNeg) + 1)) 88 x2.toNatClampNeg), .int x4]) (st' := [.int ((xw mi 88 x2.toNatClampNeg ((mi 88 x2.toNatClampNeg) + 1)) 88 x2.toNatClampNeg), .int (7 * x2), .ref 87, .int ((xw mi 88 x2.toNatClampNeg ((mi 88 x2.toNatClampNeg) + 1)) 88 x2.toNatClampNeg), .ref 68]) (by decide +kernel) (fun _ => rfl)).trans ?_
      refine (R_pure0 (ins := .iadd) (len := 1) (loc' := [.ref 68, .int x1, .int x2, .int ((xw mi 88 x2.toNatClampNeg ((mi 88 x2.toNatClampNeg) + 1)) 88 x2.toNatClampNeg), .int x4]) (st' := [.int ((7 * x2) + ((xw mi 88 x2.toNatClampNeg ((mi 88 x2.toNatClampNeg) + 1)) 88 x2.toNatClampNeg)), .ref 87, .int ((xw mi 88 x2.toNatClampNeg ((mi 88 x2.toNatClampNeg) + 1)) 88 x2.toNatClampNeg), .ref 68]) (by decide +kernel) (fun _ => rfl)).trans ?_
      refine (R_iaload (kd := 100) (n := 42) (by decide +kernel) rfl (by decide) (h7 c0 c4)).trans ?_
      refine (R_virt (i := 163) (f := 182) (kd := 0) (na := 2) (ml := 3) (ci := 10) (n := 33) (b := 68) (As := [.int ((xw mi 88 x2.toNatClampNeg ((mi 88 x2.toNatClampNeg) + 1)) 88 x2.toNatClampNeg), .int ((xw mi 88 x2.toNatClampNeg ((mi 88 x2.toNatClampNeg) + 1)) 87 ((7 * x2) + ((xw mi 88 x2.toNatClampNeg ((mi 88 x2.toNatClampNeg) + 1)) 88 x2.toNatClampNeg)).toNatClampNeg)]) (rest := []) (by decide +kernel) (by decide +kernel) (by decide) (by decide +kernel) rfl (by decide +kernel) rfl rfl (by decide +kernel) (Nat.le_of_ble_eq_true rfl)).trans ?_
      rfl
    · refine (R_pure0 (ins := .aload_n 0) (len := 1) (loc' := [.ref 68, .int x1, .int x2, .int ((xw mi 88 x2.toNatClampNeg ((mi 88 x2.toNatClampNeg) + 1)) 88 x2.toNatClampNeg), .int x4]) (st' := [.ref 68]) (by decide +kernel) (fun _ => rfl)).trans ?_
      refine (R_gr (i := 75) (ci := 10) (k := 32) (n := 33) (b := 89) (by decide +kernel) (by decide +kernel) (by decide) rfl (SH_ref (by decide +kernel))).trans ?_
      refine (R_pure0 (ins := .iload_n 2) (len := 1) (loc' := [.ref 68, .int x1, .int x2, .int ((xw mi 88 x2.toNatClampNeg ((mi 88 x2.toNatClampNeg) + 1)) 88 x2.toNatClampNeg), .int x4]) (st' := [.int x2, .ref 89]) (by decide +kernel) (fun _ => rfl)).trans ?_
      refine (R_iaload (kd := 100) (n := 6) (by decide +kernel) rfl (by decide) (h8 c0 c4)).trans ?_
      refine (R_bipush (n := (-9)) (v := (-9)) (by decide +kernel) (by decide +kernel)).trans ?_
      refine (R_icmp_ne (off := 18) (t := 121) (by decide +kernel) (by decide +kernel)).trans (ite_congr rfl (fun c5 => ?_) (fun c5 => ?_))
      · refine (R_pure0 (ins := .aload_n 0) (len := 1) (loc' := [.ref 68, .int x1, .int x2, .int ((xw mi 88 x2.toNatClampNeg ((mi 88 x2.toNatClampNeg) + 1)) 88 x2.toNatClampNeg), .int x4]) (st' := [.ref 68]) (by decide +kernel) (fun _ => rfl)).trans ?_
        refine (R_gr (i := 69) (ci := 10) (k := 30) (n := 33) (b := 87) (by decide +kernel) (by decide +kernel) (by decide) rfl (SH_ref (by decide +kernel))).trans ?_
        refine (R_bipush (n := 7) (v := 7) (by decide +kernel) (by decide +kernel)).trans ?_
        refine (R_pure0 (ins := .iload_n 2) (len := 1) (loc' := [.ref 68, .int x1, .int x2, .int ((xw mi 88 x2.toNatClampNeg ((mi 88 x2.toNatClampNeg) + 1)) 88 x2.toNatClampNeg), .int x4]) (st' := [.int x2, .int 7, .ref 87]) (by decide +kernel) (fun _ => rfl)).trans ?_
        refine (R_pure0 (ins := .imul) (len := 1) (loc' := [.ref 68, .int x1, .int x2, .int ((xw mi 88 x2.toNatClampNeg ((mi 88 x2.toNatClampNeg) + 1)) 88 x2.toNatClampNeg), .int x4]) (st' := [.int (7 * x2), .ref 87]) (by decide +kernel) (fun _ => rfl)).trans ?_
        refine (R_bipush (n := 6) (v := 6) (by decide +kernel) (by decide +kernel)).trans ?_
        refine (R_pure0 (ins := .iadd) (len := 1) (loc' := [.ref 68, .int x1, .int x2, .int ((xw mi 88 x2.toNatClampNeg ((mi 88 x2.toNatClampNeg) + 1)) 88 x2.toNatClampNeg), .int x4]) (st' := [.int ((7 * x2) + 6), .ref 87]) (by decide +kernel) (fun _ => rfl)).trans ?_
        refine (R_iaload (kd := 100) (n := 42) (by decide +kernel) rfl (by decide) (h9 c0 c4 c5)).trans ?_
        refine (R_goto (off := 9) (t := 127) (by decide +kernel) (by decide +kernel)).trans ?_
        refine (R_pure0 (ins := .istore 4) (len := 2) (loc' := [.ref 68, .int x1, .int x2, .int ((xw mi 88 x2.toNatClampNeg ((mi 88 x2.toNatClampNeg) + 1)) 88 x2.toNatClampNeg), .int ((xw mi 88 x2.toNatClampNeg ((mi 88 x2.toNatClampNeg) + 1)) 87 ((7 * x2) + 6).toNatClampNeg)]) (st' := []) (by decide +kernel) (fun _ => rfl)).trans ?_
        refine (R_pure0 (ins := .iload_n 2) (len := 1) (loc' := [.ref 68, .int x1, .int x2, .int ((xw mi 88 x2.toNatClampNeg ((mi 88 x2.toNatClampNeg) + 1)) 88 x2.toNatClampNeg), .int ((xw mi 88 x2.toNatClampNeg ((mi 88 x2.toNatClampNeg) + 1)) 87 ((7 * x2) + 6).toNatClampNeg)]) (st' := [.int x2]) (by decide +kernel) (fun _ => rfl)).trans ?_
        refine (R_if_ne (off := 6) (t := 136) (by decide +kernel) (by decide +kernel)).trans (ite_congr rfl (fun c6 => ?_) (fun c6 => ?_))
        · refine (R_pure0 (ins := .iload 4) (len := 2) (loc' := [.ref 68, .int x1, .int x2, .int ((xw mi 88 x2.toNatClampNeg ((mi 88 x2.toNatClampNeg) + 1)) 88 x2.toNatClampNeg), .int ((xw mi 88 x2.toNatClampNeg ((mi 88 x2.toNatClampNeg) + 1)) 87 ((7 * x2) + 6).toNatClampNeg)]) (st' := [.int ((xw mi 88 x2.toNatClampNeg ((mi 88 x2.toNatClampNeg) + 1)) 87 ((7 * x2) + 6).toNatClampNeg)]) (by decide +kernel) (fun _ => rfl)).trans ?_
          exact R_ireturn (by decide +kernel) (by decide +kernel)
        · refine (R_iinc (k := 2) (n := (-1)) (x := x2) (v := (x2 + (-1))) (loc' := [.ref 68, .int x1, .int (x2 + (-1)), .int ((xw mi 88 x2.toNatClampNeg ((mi 88 x2.toNatClampNeg) + 1)) 88 x2.toNatClampNeg), .int ((xw mi 88 x2.toNatClampNeg ((mi 88 x2.toNatClampNeg) + 1)) 87 ((7 * x2) + 6).toNatClampNeg)]) (by decide +kernel) rfl rfl rfl).trans ?_
          refine (R_pure0 (ins := .aload_n 0) (len := 1) (loc' := [.ref 68, .int x1, .int (x2 + (-1)), .int ((xw mi 88 x2.toNatClampNeg ((mi 88 x2.toNatClampNeg) + 1)) 88 x2.toNatClampNeg), .int ((xw mi 88 x2.toNatClampNeg ((mi 88 x2.toNatClampNeg) + 1)) 87 ((7 * x2) + 6).toNatClampNeg)]) (st' := [.ref 68]) (by decide +kernel) (fun _ => rfl)).trans ?_
          refine (R_pure0 (ins := .iload_n 2) (len := 1) (loc' := [.ref 68, .int x1, .int (x2 + (-1)), .int ((xw mi 88 x2.toNatClampNeg ((mi 88 x2.toNatClampNeg) + 1)) 88 x2.toNatClampNeg), .int ((xw mi 88 x2.toNatClampNeg ((mi 88 x2.toNatClampNeg) + 1)) 87 ((7 * x2) + 6).toNatClampNeg)]) (st' := [.int (x2 + (-1)), .ref 68]) (by decide +kernel) (fun _ => rfl)).trans ?_
          refine (R_pure0 (ins := .iload 4) (len := 2) (loc' := [.ref 68, .int x1, .int (x2 + (-1)), .int ((xw mi 88 x2.toNatClampNeg ((mi 88 x2.toNatClampNeg) + 1)) 88 x2.toNatClampNeg), .int ((xw mi 88 x2.toNatClampNeg ((mi 88 x2.toNatClampNeg) + 1)) 87 ((7 * x2) + 6).toNatClampNeg)]) (st' := [.int ((xw mi 88 x2.toNatClampNeg ((mi 88 x2.toNatClampNeg) + 1)) 87 ((7 * x2) + 6).toNatClampNeg), .int (x2 + (-1)), .ref 68]) (by decide +kernel) (fun _ => rfl)).trans ?_
          refine (R_virt (i := 266) (f := 222) (kd := 0) (na := 2) (ml := 4) (ci := 10) (n := 33) (b := 68) (As := [.int (x2 + (-1)), .int ((xw mi 88 x2.toNatClampNeg ((mi 88 x2.toNatClampNeg) + 1)) 87 ((7 * x2) + 6).toNatClampNeg)]) (rest := []) (by decide +kernel) (by decide +kernel) (by decide) (by decide +kernel) rfl (by decide +kernel) rfl rfl (by decide +kernel) (Nat.le_of_ble_eq_true rfl)).trans ?_
          rfl
      · refine (R_pure0 (ins := .aload_n 0) (len := 1) (loc' := [.ref 68, .int x1, .int x2, .int ((xw mi 88 x2.toNatClampNeg ((mi 88 x2.toNatClampNeg) + 1)) 88 x2.toNatClampNeg), .int x4]) (st' := [.ref 68]) (by decide +kernel) (fun _ => rfl)).trans ?_
        refine (R_gr (i := 75) (ci := 10) (k := 32) (n := 33) (b := 89) (by decide +kernel) (by decide +kernel) (by decide) rfl (SH_ref (by decide +kernel))).trans ?_
        refine (R_pure0 (ins := .iload_n 2) (len := 1) (loc' := [.ref 68, .int x1, .int x2, .int ((xw mi 88 x2.toNatClampNeg ((mi 88 x2.toNatClampNeg) + 1)) 88 x2.toNatClampNeg), .int x4]) (st' := [.int x2, .ref 89]) (by decide +kernel) (fun _ => rfl)).trans ?_
        refine (R_iaload (kd := 100) (n := 6) (by decide +kernel) rfl (by decide) (h10 c0 c4 c5)).trans ?_
        refine (R_pure0 (ins := .istore 4) (len := 2) (loc' := [.ref 68, .int x1, .int x2, .int ((xw mi 88 x2.toNatClampNeg ((mi 88 x2.toNatClampNeg) + 1)) 88 x2.toNatClampNeg), .int ((xw mi 88 x2.toNatClampNeg ((mi 88 x2.toNatClampNeg) + 1)) 89 x2.toNatClampNeg)]) (st' := []) (by decide +kernel) (fun _ => rfl)).trans ?_
        refine (R_pure0 (ins := .iload_n 2) (len := 1) (loc' := [.ref 68, .int x1, .int x2, .int ((xw mi 88 x2.toNatClampNeg ((mi 88 x2.toNatClampNeg) + 1)) 88 x2.toNatClampNeg), .int ((xw mi 88 x2.toNatClampNeg ((mi 88 x2.toNatClampNeg) + 1)) 89 x2.toNatClampNeg)]) (st' := [.int x2]) (by decide +kernel) (fun _ => rfl)).trans ?_
        refine (R_if_ne (off := 6) (t := 136) (by decide +kernel) (by decide +kernel)).trans (ite_congr rfl (fun c7 => ?_) (fun c7 => ?_))
        · refine (R_pure0 (ins := .iload 4) (len := 2) (loc' := [.ref 68, .int x1, .int x2, .int ((xw mi 88 x2.toNatClampNeg ((mi 88 x2.toNatClampNeg) + 1)) 88 x2.toNatClampNeg), .int ((xw mi 88 x2.toNatClampNeg ((mi 88 x2.toNatClampNeg) + 1)) 89 x2.toNatClampNeg)]) (st' := [.int ((xw mi 88 x2.toNatClampNeg ((mi 88 x2.toNatClampNeg) + 1)) 89 x2.toNatClampNeg)]) (by decide +kernel) (fun _ => rfl)).trans ?_
          exact R_ireturn (by decide +kernel) (by decide +kernel)
        · refine (R_iinc (k := 2) (n := (-1)) (x := x2) (v := (x2 + (-1))) (loc' := [.ref 68, .int x1, .int (x2 + (-1)), .int ((xw mi 88 x2.toNatClampNeg ((mi 88 x2.toNatClampNeg) + 1)) 88 x2.toNatClampNeg), .int ((xw mi 88 x2.toNatClampNeg ((mi 88 x2.toNatClampNeg) + 1)) 89 x2.toNatClampNeg)]) (by decide +kernel) rfl rfl rfl).trans ?_
          refine (R_pure0 (ins := .aload_n 0) (len := 1) (loc' := [.ref 68, .int x1, .int (x2 + (-1)), .int ((xw mi 88 x2.toNatClampNeg ((mi 88 x2.toNatClampNeg) + 1)) 88 x2.toNatClampNeg), .int ((xw mi 88 x2.toNatClampNeg ((mi 88 x2.toNatClampNeg) + 1)) 89 x2.toNatClampNeg)]) (st' := [.ref 68]) (by decide +kernel) (fun _ => rfl)).trans ?_
          refine (R_pure0 (ins := .iload_n 2) (len := 1) (loc' := [.ref 68, .int x1, .int (x2 + (-1)), .int ((xw mi 88 x2.toNatClampNeg ((mi 88 x2.toNatClampNeg) + 1)) 88 x2.toNatClampNeg), .int ((xw mi 88 x2.toNatClampNeg ((mi 88 x2.toNatClampNeg) + 1)) 89 x2.toNatClampNeg)]) (st' := [.int (x2 + (-1)), .ref 68]) (by decide +kernel) (fun _ => rfl)).trans ?_
          refine (R_pure0 (ins := .iload 4) (len := 2) (loc' := [.ref 68, .int x1, .int (x2 + (-1)), .int ((xw mi 88 x2.toNatClampNeg ((mi 88 x2.toNatClampNeg) + 1)) 88 x2.toNatClampNeg), .int ((xw mi 88 x2.toNatClampNeg ((mi 88 x2.toNatClampNeg) + 1)) 89 x2.toNatClampNeg)]) (st' := [.int ((xw mi 88 x2.toNatClampNeg ((mi 88 x2.toNatClampNeg) + 1)) 89 x2.toNatClampNeg), .int (x2 + (-1)), .ref 68]) (by decide +kernel) (fun _ => rfl)).trans ?_
          refine (R_virt (i := 266) (f := 222) (kd := 0) (na := 2) (ml := 4) (ci := 10) (n := 33) (b := 68) (As := [.int (x2 + (-1)), .int ((xw mi 88 x2.toNatClampNeg ((mi 88 x2.toNatClampNeg) + 1)) 89 x2.toNatClampNeg)]) (rest := []) (by decide +kernel) (by decide +kernel) (by decide) (by decide +kernel) rfl (by decide +kernel) rfl rfl (by decide +kernel) (Nat.le_of_ble_eq_true rfl)).trans ?_
          rfl
theorem s223_65v3 {L : Nat} {mi : Nat → Nat → Int32} {ml : Nat → Nat → Int64} {d : Nat} {Q : Option Value → xM → Prop} {x1 x2 x3 : Int32} (h1 : xin x2 6 = true) (h2 : xin x2 6 = true) (h3 : xin x2 6 = true) (h4 : (x2 = x1) → xin x2 6 = true) (h5 : (x2 = x1) → (((xw mi 88 x2.toNatClampNeg ((mi 88 x2.toNatClampNeg) + 1)) 89 x2.toNatClampNeg) = (-9)) → xin ((7 * x2) + 6) 42 = true) (h6 : (x2 = x1) → ¬ (((xw mi 88 x2.toNatClampNeg ((mi 88 x2.toNatClampNeg) + 1)) 89 x2.toNatClampNeg) = (-9)) → xin x2 6 = true) (h7 : ¬ (x2 = x1) → (((xw mi 88 x2.toNatClampNeg ((mi 88 x2.toNatClampNeg) + 1)) 88 x2.toNatClampNeg) < ((xw mi 88 x2.toNatClampNeg ((mi 88 x2.toNatClampNeg) + 1)) 68 4)) → xin ((7 * x2) + ((xw mi 88 x2.toNatClampNeg ((mi 88 x2.toNatClampNeg) + 1)) 88 x2.toNatClampNeg)) 42 = true) (h8 : ¬ (x2 = x1) → ¬ (((xw mi 88 x2.toNatClampNeg ((mi 88 x2.toNatClampNeg) + 1)) 88 x2.toNatClampNeg) < ((xw mi 88 x2.toNatClampNeg ((mi 88 x2.toNatClampNeg) + 1)) 68 4)) → xin x2 6 = true) (h9 : ¬ (x2 = x1) → ¬ (((xw mi 88 x2.toNatClampNeg ((mi 88 x2.toNatClampNeg) + 1)) 88 x2.toNatClampNeg) < ((xw mi 88 x2.toNatClampNeg ((mi 88 x2.toNatClampNeg) + 1)) 68 4)) → (((xw mi 88 x2.toNatClampNeg ((mi 88 x2.toNatClampNeg) + 1)) 89 x2.toNatClampNeg) = (-9)) → xin ((7 * x2) + 6) 42 = true) (h10 : ¬ (x2 = x1) → ¬ (((xw mi 88 x2.toNatClampNeg ((mi 88 x2.toNatClampNeg) + 1)) 88 x2.toNatClampNeg) < ((xw mi 88 x2.toNatClampNeg ((mi 88 x2.toNatClampNeg) + 1)) 68 4)) → ¬ (((xw mi 88 x2.toNatClampNeg ((mi 88 x2.toNatClampNeg) + 1)) 89 x2.toNatClampNeg) = (-9)) → xin x2 6 = true) : X 223 65 [.ref 68, .int x1, .int x2, .int x3, xmk] [] (SH L, mi, ml, MR) (d + 1) Q =
    if (x2 = x1) then (if (((xw mi 88 x2.toNatClampNeg ((mi 88 x2.toNatClampNeg) + 1)) 89 x2.toNatClampNeg) = (-9)) then (if (x2 = 0) then (Q (some (.int ((xw mi 88 x2.toNatClampNeg ((mi 88 x2.toNatClampNeg) + 1)) 87 ((7 * x2) + 6).toNatClampNeg))) (SH L, (xw mi 88 x2.toNatClampNeg ((mi 88 x2.toNatClampNeg) + 1)), ml, MR)) else (Xm 222 [.ref 68, .int (x2 + (-1)), .int ((xw mi 88 x2.toNatClampNeg ((mi 88 x2.toNatClampNeg) + 1)) 87 ((7 * x2) + 6).toNatClampNeg)] (SH L, (xw mi 88 x2.toNatClampNeg ((mi 88 x2.toNatClampNeg) + 1)), ml, MR) d (fun v μ' => X 223 146 [.ref 68, .int x1, .int (x2 + (-1)), .int ((xw mi 88 x2.toNatClampNeg ((mi 88 x2.toNatClampNeg) + 1)) 88 x2.toNatClampNeg), .int ((xw mi 88 x2.toNatClampNeg ((mi 88 x2.toNatClampNeg) + 1)) 87 ((7 * x2) + 6).toNatClampNeg)] (v.toList ++ []) μ' (d + 1) Q))) else (if (x2 = 0) then (Q (some (.int ((xw mi 88 x2.toNatClampNeg ((mi 88 x2.toNatClampNeg) + 1)) 89 x2.toNatClampNeg))) (SH L, (xw mi 88 x2.toNatClampNeg ((mi 88 x2.toNatClampNeg) + 1)), ml, MR)) else (Xm 222 [.ref 68, .int (x2 + (-1)), .int ((xw mi 88 x2.toNatClampNeg ((mi 88 x2.toNatClampNeg) + 1)) 89 x2.toNatClampNeg)] (SH L, (xw mi 88 x2.toNatClampNeg ((mi 88 x2.toNatClampNeg) + 1)), ml, MR) d (fun v μ' => X 223 146 [.ref 68, .int x1, .int (x2 + (-1)), .int ((xw mi 88 x2.toNatClampNeg ((mi 88 x2.toNatClampNeg) + 1)) 88 x2.toNatClampNeg), .int ((xw mi 88 x2.toNatClampNeg ((mi 88 x2.toNatClampNeg) + 1)) 89 x2.toNatClampNeg)] (v.toList ++ []) μ' (d + 1) Q)))) else (if (((xw mi 88 x2.toNatClampNeg ((mi 88 x2.toNatClampNeg) + 1)) 88 x2.toNatClampNeg) < ((xw mi 88 x2.toNatClampNeg ((mi 88 x2.toNatClampNeg) + 1)) 68 4)) then (Xm 182 [.ref 68, .int ((xw mi 88 x2.toNatClampNeg ((mi 88 x2.toNatClampNeg) + 1)) 88 x2.toNatClampNeg), .int ((xw mi 88 x2.toNatClampNeg ((mi 88 x2.toNatClampNeg) + 1)) 87 ((7 * x2) + ((xw mi 88 x2.toNatClampNeg ((mi 88 x2.toNatClampNeg) + 1)) 88 x2.toNatClampNeg)).toNatClampNeg)] (SH L, (xw mi 88 x2.toNatClampNeg ((mi 88 x2.toNatClampNeg) + 1)), ml, MR) d (fun v μ' => X 223 165 [.ref 68, .int x1, .int x2, .int ((xw mi 88 x2.toNatClampNeg ((mi 88 x2.toNatClampNeg) + 1)) 88 x2.toNatClampNeg), xmk] (v.toList ++ []) μ' (d + 1) Q)) else (if (((xw mi 88 x2.toNatClampNeg ((mi 88 x2.toNatClampNeg) + 1)) 89 x2.toNatClampNeg) = (-9)) then (if (x2 = 0) then (Q (some (.int ((xw mi 88 x2.toNatClampNeg ((mi 88 x2.toNatClampNeg) + 1)) 87 ((7 * x2) + 6).toNatClampNeg))) (SH L, (xw mi 88 x2.toNatClampNeg ((mi 88 x2.toNatClampNeg) + 1)), ml, MR)) else (Xm 222 [.ref 68, .int (x2 + (-1)), .int ((xw mi 88 x2.toNatClampNeg ((mi 88 x2.toNatClampNeg) + 1)) 87 ((7 * x2) + 6).toNatClampNeg)] (SH L, (xw mi 88 x2.toNatClampNeg ((mi 88 x2.toNatClampNeg) + 1)), ml, MR) d (fun v μ' => X 223 146 [.ref 68, .int x1, .int (x2 + (-1)), .int ((xw mi 88 x2.toNatClampNeg ((mi 88 x2.toNatClampNeg) + 1)) 88 x2.toNatClampNeg), .int ((xw mi 88 x2.toNatClampNeg ((mi 88 x2.toNatClampNeg) + 1)) 87 ((7 * x2) + 6).toNatClampNeg)] (v.toList ++ []) μ' (d + 1) Q))) else (if (x2 = 0) then (Q (some (.int ((xw mi 88 x2.toNatClampNeg ((mi 88 x2.toNatClampNeg) + 1)) 89 x2.toNatClampNeg))) (SH L, (xw mi 88 x2.toNatClampNeg ((mi 88 x2.toNatClampNeg) + 1)), ml, MR)) else (Xm 222 [.ref 68, .int (x2 + (-1)), .int ((xw mi 88 x2.toNatClampNeg ((mi 88 x2.toNatClampNeg) + 1)) 89 x2.toNatClampNeg)] (SH L, (xw mi 88 x2.toNatClampNeg ((mi 88 x2.toNatClampNeg) + 1)), ml, MR) d (fun v μ' => X 223 146 [.ref 68, .int x1, .int (x2 + (-1)), .int ((xw mi 88 x2.toNatClampNeg ((mi 88 x2.toNatClampNeg) + 1)) 88 x2.toNatClampNeg), .int ((xw mi 88 x2.toNatClampNeg ((mi 88 x2.toNatClampNeg) + 1)) 89 x2.toNatClampNeg)] (v.toList ++ []) μ' (d + 1) Q))))) := by
  refine (R_pure0 (ins := .aload_n 0) (len := 1) (loc' := [.ref 68, .int x1, .int x2, .int x3, xmk]) (st' := [.ref 68]) (by decide +kernel) (fun _ => rfl)).trans ?_
  refine (R_gr (i := 72) (ci := 10) (k := 31) (n := 33) (b := 88) (by decide +kernel) (by decide +kernel) (by decide) rfl (SH_ref (by decide +kernel))).trans ?_
  refine (R_pure0 (ins := .iload_n 2) (len := 1) (loc' := [.ref 68, .int x1, .int x2, .int x3, xmk]) (st' := [.int x2, .ref 88]) (by decide +kernel) (fun _ => rfl)).trans ?_
  refine (R_pure0 (ins := .dup2) (len := 1) (loc' := [.ref 68, .int x1, .int x2, .int x3, xmk]) (st' := [.int x2, .ref 88, .int x2, .ref 88]) (by decide +kernel) (fun _ => rfl)).trans ?_
  refine (R_iaload (kd := 100) (n := 6) (by decide +kernel) rfl (by decide) (h1)).trans ?_
  refine (R_iconst (n := 1) (v := 1) (by decide +kernel) (by decide +kernel)).trans ?_
  refine (R_pure0 (ins := .iadd) (len := 1) (loc' := [.ref 68, .int x1, .int x2, .int x3, xmk]) (st' := [.int ((mi 88 x2.toNatClampNeg) + 1), .int x2, .ref 88]) (by decide +kernel) (fun _ => rfl)).trans ?_
  refine (R_iastore (n := 6) (by decide +kernel) rfl (h2)).trans ?_
  refine (R_pure0 (ins := .aload_n 0) (len := 1) (loc' := [.ref 68, .int x1, .int x2, .int x3, xmk]) (st' := [.ref 68]) (by decide +kernel) (fun _ => rfl)).trans ?_
  refine (R_gr (i := 72) (ci := 10) (k := 31) (n := 33) (b := 88) (by decide +kernel) (by decide +kernel) (by decide) rfl (SH_ref (by decide +kernel))).trans ?_
  refine (R_pure0 (ins := .iload_n 2) (len := 1) (loc' := [.ref 68, .int x1, .int x2, .int x3, xmk]) (st' := [.int x2, .ref 88]) (by decide +kernel) (fun _ => rfl)).trans ?_
  refine (R_iaload (kd := 100) (n := 6) (by decide +kernel) rfl (by decide) (h3)).trans ?_
  refine (R_pure0 (ins := .istore_n 3) (len := 1) (loc' := [.ref 68, .int x1, .int x2, .int ((xw mi 88 x2.toNatClampNeg ((mi 88 x2.toNatClampNeg) + 1)) 88 x2.toNatClampNeg), xmk]) (st' := []) (by decide +kernel) (fun _ => rfl)).trans ?_
  refine (R_pure0 (ins := .iload_n 2) (len := 1) (loc' := [.ref 68, .int x1, .int x2, .int ((xw mi 88 x2.toNatClampNeg ((mi 88 x2.toNatClampNeg) + 1)) 88 x2.toNatClampNeg), xmk]) (st' := [.int x2]) (by decide +kernel) (fun _ => rfl)).trans ?_
  refine (R_pure0 (ins := .iload_n 1) (len := 1) (loc' := [.ref 68, .int x1, .int x2, .int ((xw mi 88 x2.toNatClampNeg ((mi 88 x2.toNatClampNeg) + 1)) 88 x2.toNatClampNeg), xmk]) (st' := [.int x1, .int x2]) (by decide +kernel) (fun _ => rfl)).trans ?_
  refine (R_icmp_eq (off := 11) (t := 95) (by decide +kernel) (by decide +kernel)).trans (ite_congr rfl (fun c0 => ?_) (fun c0 => ?_))
  · refine (R_pure0 (ins := .aload_n 0) (len := 1) (loc' := [.ref 68, .int x1, .int x2, .int ((xw mi 88 x2.toNatClampNeg ((mi 88 x2.toNatClampNeg) + 1)) 88 x2.toNatClampNeg), xmk]) (st' := [.ref 68]) (by decide +kernel) (fun _ => rfl)).trans ?_
    refine (R_gr (i := 75) (ci := 10) (k := 32) (n := 33) (b := 89) (by decide +kernel) (by decide +kernel) (by decide) rfl (SH_ref (by decide +kernel))).trans ?_
    refine (R_pure0 (ins := .iload_n 2) (len := 1) (loc' := [.ref 68, .int x1, .int x2, .int ((xw mi 88 x2.toNatClampNeg ((mi 88 x2.toNatClampNeg) + 1)) 88 x2.toNatClampNeg), xmk]) (st' := [.int x2, .ref 89]) (by decide +kernel) (fun _ => rfl)).trans ?_
    refine (R_iaload (kd := 100) (n := 6) (by decide +kernel) rfl (by decide) (h4 c0)).trans ?_
    refine (R_bipush (n := (-9)) (v := (-9)) (by decide +kernel) (by decide +kernel)).trans ?_
    refine (R_icmp_ne (off := 18) (t := 121) (by decide +kernel) (by decide +kernel)).trans (ite_congr rfl (fun c1 => ?_) (fun c1 => ?_))
    · refine (R_pure0 (ins := .aload_n 0) (len := 1) (loc' := [.ref 68, .int x1, .int x2, .int ((xw mi 88 x2.toNatClampNeg ((mi 88 x2.toNatClampNeg) + 1)) 88 x2.toNatClampNeg), xmk]) (st' := [.ref 68]) (by decide +kernel) (fun _ => rfl)).trans ?_
      refine (R_gr (i := 69) (ci := 10) (k := 30) (n := 33) (b := 87) (by decide +kernel) (by decide +kernel) (by decide) rfl (SH_ref (by decide +kernel))).trans ?_
      refine (R_bipush (n := 7) (v := 7) (by decide +kernel) (by decide +kernel)).trans ?_
      refine (R_pure0 (ins := .iload_n 2) (len := 1) (loc' := [.ref 68, .int x1, .int x2, .int ((xw mi 88 x2.toNatClampNeg ((mi 88 x2.toNatClampNeg) + 1)) 88 x2.toNatClampNeg), xmk]) (st' := [.int x2, .int 7, .ref 87]) (by decide +kernel) (fun _ => rfl)).trans ?_
      refine (R_pure0 (ins := .imul) (len := 1) (loc' := [.ref 68, .int x1, .int x2, .int ((xw mi 88 x2.toNatClampNeg ((mi 88 x2.toNatClampNeg) + 1)) 88 x2.toNatClampNeg), xmk]) (st' := [.int (7 * x2), .ref 87]) (by decide +kernel) (fun _ => rfl)).trans ?_
      refine (R_bipush (n := 6) (v := 6) (by decide +kernel) (by decide +kernel)).trans ?_
      refine (R_pure0 (ins := .iadd) (len := 1) (loc' := [.ref 68, .int x1, .int x2, .int ((xw mi 88 x2.toNatClampNeg ((mi 88 x2.toNatClampNeg) + 1)) 88 x2.toNatClampNeg), xmk]) (st' := [.int ((7 * x2) + 6), .ref 87]) (by decide +kernel) (fun _ => rfl)).trans ?_
      refine (R_iaload (kd := 100) (n := 42) (by decide +kernel) rfl (by decide) (h5 c0 c1)).trans ?_
      refine (R_goto (off := 9) (t := 127) (by decide +kernel) (by decide +kernel)).trans ?_
      refine (R_pure0 (ins := .istore 4) (len := 2) (loc' := [.ref 68, .int x1, .int x2, .int ((xw mi 88 x2.toNatClampNeg ((mi 88 x2.toNatClampNeg) + 1)) 88 x2.toNatClampNeg), .int ((xw mi 88 x2.toNatClampNeg ((mi 88 x2.toNatClampNeg) + 1)) 87 ((7 * x2) + 6).toNatClampNeg)]) (st' := []) (by decide +kernel) (fun _ => rfl)).trans ?_
      refine (R_pure0 (ins := .iload_n 2) (len := 1) (loc' := [.ref 68, .int x1, .int x2, .int ((xw mi 88 x2.toNatClampNeg ((mi 88 x2.toNatClampNeg) + 1)) 88 x2.toNatClampNeg), .int ((xw mi 88 x2.toNatClampNeg ((mi 88 x2.toNatClampNeg) + 1)) 87 ((7 * x2) + 6).toNatClampNeg)]) (st' := [.int x2]) (by decide +kernel) (fun _ => rfl)).trans ?_
      refine (R_if_ne (off := 6) (t := 136) (by decide +kernel) (by decide +kernel)).trans (ite_congr rfl (fun c2 => ?_) (fun c2 => ?_))
      · refine (R_pure0 (ins := .iload 4) (len := 2) (loc' := [.ref 68, .int x1, .int x2, .int ((xw mi 88 x2.toNatClampNeg ((mi 88 x2.toNatClampNeg) + 1)) 88 x2.toNatClampNeg), .int ((xw mi 88 x2.toNatClampNeg ((mi 88 x2.toNatClampNeg) + 1)) 87 ((7 * x2) + 6).toNatClampNeg)]) (st' := [.int ((xw mi 88 x2.toNatClampNeg ((mi 88 x2.toNatClampNeg) + 1)) 87 ((7 * x2) + 6).toNatClampNeg)]) (by decide +kernel) (fun _ => rfl)).trans ?_
        exact R_ireturn (by decide +kernel) (by decide +kernel)
      · refine (R_iinc (k := 2) (n := (-1)) (x := x2) (v := (x2 + (-1))) (loc' := [.ref 68, .int x1, .int (x2 + (-1)), .int ((xw mi 88 x2.toNatClampNeg ((mi 88 x2.toNatClampNeg) + 1)) 88 x2.toNatClampNeg), .int ((xw mi 88 x2.toNatClampNeg ((mi 88 x2.toNatClampNeg) + 1)) 87 ((7 * x2) + 6).toNatClampNeg)]) (by decide +kernel) rfl rfl rfl).trans ?_
        refine (R_pure0 (ins := .aload_n 0) (len := 1) (loc' := [.ref 68, .int x1, .int (x2 + (-1)), .int ((xw mi 88 x2.toNatClampNeg ((mi 88 x2.toNatClampNeg) + 1)) 88 x2.toNatClampNeg), .int ((xw mi 88 x2.toNatClampNeg ((mi 88 x2.toNatClampNeg) + 1)) 87 ((7 * x2) + 6).toNatClampNeg)]) (st' := [.ref 68]) (by decide +kernel) (fun _ => rfl)).trans ?_
        refine (R_pure0 (ins := .iload_n 2) (len := 1) (loc' := [.ref 68, .int x1, .int (x2 + (-1)), .int ((xw mi 88 x2.toNatClampNeg ((mi 88 x2.toNatClampNeg) + 1)) 88 x2.toNatClampNeg), .int ((xw mi 88 x2.toNatClampNeg ((mi 88 x2.toNatClampNeg) + 1)) 87 ((7 * x2) + 6).toNatClampNeg)]) (st' := [.int (x2 + (-1)), .ref 68]) (by decide +kernel) (fun _ => rfl)).trans ?_
        refine (R_pure0 (ins := .iload 4) (len := 2) (loc' := [.ref 68, .int x1, .int (x2 + (-1)), .int ((xw mi 88 x2.toNatClampNeg ((mi 88 x2.toNatClampNeg) + 1)) 88 x2.toNatClampNeg), .int ((xw mi 88 x2.toNatClampNeg ((mi 88 x2.toNatClampNeg) + 1)) 87 ((7 * x2) + 6).toNatClampNeg)]) (st' := [.int ((xw mi 88 x2.toNatClampNeg ((mi 88 x2.toNatClampNeg) + 1)) 87 ((7 * x2) + 6).toNatClampNeg), .int (x2 + (-1)), .ref 68]) (by decide +kernel) (fun _ => rfl)).trans ?_
        refine (R_virt (i := 266) (f := 222) (kd := 0) (na := 2) (ml := 4) (ci := 10) (n := 33) (b := 68) (As := [.int (x2 + (-1)), .int ((xw mi 88 x2.toNatClampNeg ((mi 88 x2.toNatClampNeg) + 1)) 87 ((7 * x2) + 6).toNatClampNeg)]) (rest := []) (by decide +kernel) (by decide +kernel) (by decide) (by decide +kernel) rfl (by decide +kernel) rfl rfl (by decide +kernel) (Nat.le_of_ble_eq_true rfl)).trans ?_
        rfl
    · refine (R_pure0 (ins := .aload_n 0) (len := 1) (loc' := [.ref 68, .int x1, .int x2, .int ((xw mi 88 x2.toNatClampNeg ((mi 88 x2.toNatClampNeg) + 1)) 88 x2.toNatClampNeg), xmk]) (st' := [.ref 68]) (by decide +kernel) (fun _ => rfl)).trans ?_
      refine (R_gr (i := 75) (ci := 10) (k := 32) (n := 33) (b := 89) (by decide +kernel) (by decide +kernel) (by decide) rfl (SH_ref (by decide +kernel))).trans ?_
      refine (R_pure0 (ins := .iload_n 2) (len := 1) (loc' := [.ref 68, .int x1, .int x2, .int ((xw mi 88 x2.toNatClampNeg ((mi 88 x2.toNatClampNeg) + 1)) 88 x2.toNatClampNeg), xmk]) (st' := [.int x2, .ref 89]) (by decide +kernel) (fun _ => rfl)).trans ?_
      refine (R_iaload (kd := 100) (n := 6) (by decide +kernel) rfl (by decide) (h6 c0 c1)).trans ?_
      refine (R_pure0 (ins := .istore 4) (len := 2) (loc' := [.ref 68, .int x1, .int x2, .int ((xw mi 88 x2.toNatClampNeg ((mi 88 x2.toNatClampNeg) + 1)) 88 x2.toNatClampNeg), .int ((xw mi 88 x2.toNatClampNeg ((mi 88 x2.toNatClampNeg) + 1)) 89 x2.toNatClampNeg)]) (st' := []) (by decide +kernel) (fun _ => rfl)).trans ?_
      refine (R_pure0 (ins := .iload_n 2) (len := 1) (loc' := [.ref 68, .int x1, .int x2, .int ((xw mi 88 x2.toNatClampNeg ((mi 88 x2.toNatClampNeg) + 1)) 88 x2.toNatClampNeg), .int ((xw mi 88 x2.toNatClampNeg ((mi 88 x2.toNatClampNeg) + 1)) 89 x2.toNatClampNeg)]) (st' := [.int x2]) (by decide +kernel) (fun _ => rfl)).trans ?_
      refine (R_if_ne (off := 6) (t := 136) (by decide +kernel) (by decide +kernel)).trans (ite_congr rfl (fun c3 => ?_) (fun c3 => ?_))
      · refine (R_pure0 (ins := .iload 4) (len := 2) (loc' := [.ref 68, .int x1, .int x2, .int ((xw mi 88 x2.toNatClampNeg ((mi 88 x2.toNatClampNeg) + 1)) 88 x2.toNatClampNeg), .int ((xw mi 88 x2.toNatClampNeg ((mi 88 x2.toNatClampNeg) + 1)) 89 x2.toNatClampNeg)]) (st' := [.int ((xw mi 88 x2.toNatClampNeg ((mi 88 x2.toNatClampNeg) + 1)) 89 x2.toNatClampNeg)]) (by decide +kernel) (fun _ => rfl)).trans ?_
        exact R_ireturn (by decide +kernel) (by decide +kernel)
      · refine (R_iinc (k := 2) (n := (-1)) (x := x2) (v := (x2 + (-1))) (loc' := [.ref 68, .int x1, .int (x2 + (-1)), .int ((xw mi 88 x2.toNatClampNeg ((mi 88 x2.toNatClampNeg) + 1)) 88 x2.toNatClampNeg), .int ((xw mi 88 x2.toNatClampNeg ((mi 88 x2.toNatClampNeg) + 1)) 89 x2.toNatClampNeg)]) (by decide +kernel) rfl rfl rfl).trans ?_
        refine (R_pure0 (ins := .aload_n 0) (len := 1) (loc' := [.ref 68, .int x1, .int (x2 + (-1)), .int ((xw mi 88 x2.toNatClampNeg ((mi 88 x2.toNatClampNeg) + 1)) 88 x2.toNatClampNeg), .int ((xw mi 88 x2.toNatClampNeg ((mi 88 x2.toNatClampNeg) + 1)) 89 x2.toNatClampNeg)]) (st' := [.ref 68]) (by decide +kernel) (fun _ => rfl)).trans ?_
        refine (R_pure0 (ins := .iload_n 2) (len := 1) (loc' := [.ref 68, .int x1, .int (x2 + (-1)), .int ((xw mi 88 x2.toNatClampNeg ((mi 88 x2.toNatClampNeg) + 1)) 88 x2.toNatClampNeg), .int ((xw mi 88 x2.toNatClampNeg ((mi 88 x2.toNatClampNeg) + 1)) 89 x2.toNatClampNeg)]) (st' := [.int (x2 + (-1)), .ref 68]) (by decide +kernel) (fun _ => rfl)).trans ?_
        refine (R_pure0 (ins := .iload 4) (len := 2) (loc' := [.ref 68, .int x1, .int (x2 + (-1)), .int ((xw mi 88 x2.toNatClampNeg ((mi 88 x2.toNatClampNeg) + 1)) 88 x2.toNatClampNeg), .int ((xw mi 88 x2.toNatClampNeg ((mi 88 x2.toNatClampNeg) + 1)) 89 x2.toNatClampNeg)]) (st' := [.int ((xw mi 88 x2.toNatClampNeg ((mi 88 x2.toNatClampNeg) + 1)) 89 x2.toNatClampNeg), .int (x2 + (-1)), .ref 68]) (by decide +kernel) (fun _ => rfl)).trans ?_
        refine (R_virt (i := 266) (f := 222) (kd := 0) (na := 2) (ml := 4) (ci := 10) (n := 33) (b := 68) (As := [.int (x2 + (-1)), .int ((xw mi 88 x2.toNatClampNeg ((mi 88 x2.toNatClampNeg) + 1)) 89 x2.toNatClampNeg)]) (rest := []) (by decide +kernel) (by decide +kernel) (by decide) (by decide +kernel) rfl (by decide +kernel) rfl rfl (by decide +kernel) (Nat.le_of_ble_eq_true rfl)).trans ?_
        rfl
  · refine (R_pure0 (ins := .iload_n 3) (len := 1) (loc' := [.ref 68, .int x1, .int x2, .int ((xw mi 88 x2.toNatClampNeg ((mi 88 x2.toNatClampNeg) + 1)) 88 x2.toNatClampNeg), xmk]) (st' := [.int ((xw mi 88 x2.toNatClampNeg ((mi 88 x2.toNatClampNeg) + 1)) 88 x2.toNatClampNeg)]) (by decide +kernel) (fun _ => rfl)).trans ?_
    refine (R_pure0 (ins := .aload_n 0) (len := 1) (loc' := [.ref 68, .int x1, .int x2, .int ((xw mi 88 x2.toNatClampNeg ((mi 88 x2.toNatClampNeg) + 1)) 88 x2.toNatClampNeg), xmk]) (st' := [.ref 68, .int ((xw mi 88 x2.toNatClampNeg ((mi 88 x2.toNatClampNeg) + 1)) 88 x2.toNatClampNeg)]) (by decide +kernel) (fun _ => rfl)).trans ?_
    refine (R_gi (i := 131) (ci := 10) (k := 4) (n := 33) (by decide +kernel) (by decide +kernel) (by decide) rfl).trans ?_
    refine (R_icmp_lt (off := 57) (t := 149) (by decide +kernel) (by decide +kernel)).trans (ite_congr rfl (fun c4 => ?_) (fun c4 => ?_))
    · refine (R_pure0 (ins := .aload_n 0) (len := 1) (loc' := [.ref 68, .int x1, .int x2, .int ((xw mi 88 x2.toNatClampNeg ((mi 88 x2.toNatClampNeg) + 1)) 88 x2.toNatClampNeg), xmk]) (st' := [.ref 68]) (by decide +kernel) (fun _ => rfl)).trans ?_
      refine (R_pure0 (ins := .iload_n 3) (len := 1) (loc' := [.ref 68, .int x1, .int x2, .int ((xw mi 88 x2.toNatClampNeg ((mi 88 x2.toNatClampNeg) + 1)) 88 x2.toNatClampNeg), xmk]) (st' := [.int ((xw mi 88 x2.toNatClampNeg ((mi 88 x2.toNatClampNeg) + 1)) 88 x2.toNatClampNeg), .ref 68]) (by decide +kernel) (fun _ => rfl)).trans ?_
      refine (R_pure0 (ins := .aload_n 0) (len := 1) (loc' := [.ref 68, .int x1, .int x2, .int ((xw mi 88 x2.toNatClampNeg ((mi 88 x2.toNatClampNeg) + 1)) 88 x2.toNatClampNeg), xmk]) (st' := [.ref 68, .int ((xw mi 88 x2.toNatClampNeg ((mi 88 x2.toNatClampNeg) + 1)) 88 x2.toNatClampNeg), .ref 68]) (by decide +kernel) (fun _ => rfl)).trans ?_
      refine (R_gr (i := 69) (ci := 10) (k := 30) (n := 33) (b := 87) (by decide +kernel) (by decide +kernel) (by decide) rfl (SH_ref (by decide +kernel))).trans ?_
      refine (R_bipush (n := 7) (v := 7) (by decide +kernel) (by decide +kernel)).trans ?_
      refine (R_pure0 (ins := .iload_n 2) (len := 1) (loc' := [.ref 68, .int x1, .int x2, .int ((xw mi 88 x2.toNatClampNeg ((mi 88 x2.toNatClampNeg) + 1)) 88 x2.toNatClampNeg), xmk]) (st' := [.int x2, .int 7, .ref 87, .int ((xw mi 88 x2.toNatClampNeg ((mi 88 x2.toNatClampNeg) + 1)) 88 x2.toNatClampNeg), .ref 68]) (by decide +kernel) (fun _ => rfl)).trans ?_
      refine (R_pure0 (ins := .imul) (len := 1) (loc' := [.ref 68, .int x1, .int x2, .int ((xw mi 88 x2.toNatClampNeg ((mi 88 x2.toNatClampNeg) + 1)) 88 x2.toNatClampNeg), xmk]) (st' := [.int (7 * x2), .ref 87, .int ((xw mi 88 x2.toNatClampNeg ((mi 88 x2.toNatClampNeg) + 1)) 88 x2.toNatClampNeg), .ref 68]) (by decide +kernel) (fun _ => rfl)).trans ?_
      refine (R_pure0 (ins := .iload_n 3) (len := 1) (loc' := [.ref 68, .int x1, .int x2, .int ((xw mi 88 x2.toNatClampNeg ((mi 88 x2.toNatClampNeg) + 1)) 88 x2.toNatClampNeg), xmk]) (st' := [.int ((xw mi 88 x2.toNatClampNeg ((mi 88 x2.toNatClampNeg) + 1)) 88 x2.toNatClampNeg), .int (7 * x2), .ref 87, .int ((xw mi 88 x2.toNatClampNeg ((mi 88 x2.toNatClampNeg) + 1)) 88 x2.toNatClampNeg), .ref 68]) (by decide +kernel) (fun _ => rfl)).trans ?_
      refine (R_pure0 (ins := .iadd) (len := 1) (loc' := [.ref 68, .int x1, .int x2, .int ((xw mi 88 x2.toNatClampNeg ((mi 88 x2.toNatClampNeg) + 1)) 88 x2.toNatClampNeg), xmk]) (st' := [.int ((7 * x2) + ((xw mi 88 x2.toNatClampNeg ((mi 88 x2.toNatClampNeg) + 1)) 88 x2.toNatClampNeg)), .ref 87, .int ((xw mi 88 x2.toNatClampNeg ((mi 88 x2.toNatClampNeg) + 1)) 88 x2.toNatClampNeg), .ref 68]) (by decide +kernel) (fun _ => rfl)).trans ?_
      refine (R_iaload (kd := 100) (n := 42) (by decide +kernel) rfl (by decide) (h7 c0 c4)).trans ?_
      refine (R_virt (i := 163) (f := 182) (kd := 0) (na := 2) (ml := 3) (ci := 10) (n := 33) (b := 68) (As := [.int ((xw mi 88 x2.toNatClampNeg ((mi 88 x2.toNatClampNeg) + 1)) 88 x2.toNatClampNeg), .int ((xw mi 88 x2.toNatClampNeg ((mi 88 x2.toNatClampNeg) + 1)) 87 ((7 * x2) + ((xw mi 88 x2.toNatClampNeg ((mi 88 x2.toNatClampNeg) + 1)) 88 x2.toNatClampNeg)).toNatClampNeg)]) (rest := []) (by decide +kernel) (by decide +kernel) (by decide) (by decide +kernel) rfl (by decide +kernel) rfl rfl (by decide +kernel) (Nat.le_of_ble_eq_true rfl)).trans ?_
      rfl
    · refine (R_pure0 (ins := .aload_n 0) (len := 1) (loc' := [.ref 68, .int x1, .int x2, .int ((xw mi 88 x2.toNatClampNeg ((mi 88 x2.toNatClampNeg) + 1)) 88 x2.toNatClampNeg), xmk]) (st' := [.ref 68]) (by decide +kernel) (fun _ => rfl)).trans ?_
      refine (R_gr (i := 75) (ci := 10) (k := 32) (n := 33) (b := 89) (by decide +kernel) (by decide +kernel) (by decide) rfl (SH_ref (by decide +kernel))).trans ?_
      refine (R_pure0 (ins := .iload_n 2) (len := 1) (loc' := [.ref 68, .int x1, .int x2, .int ((xw mi 88 x2.toNatClampNeg ((mi 88 x2.toNatClampNeg) + 1)) 88 x2.toNatClampNeg), xmk]) (st' := [.int x2, .ref 89]) (by decide +kernel) (fun _ => rfl)).trans ?_
      refine (R_iaload (kd := 100) (n := 6) (by decide +kernel) rfl (by decide) (h8 c0 c4)).trans ?_
      refine (R_bipush (n := (-9)) (v := (-9)) (by decide +kernel) (by decide +kernel)).trans ?_
      refine (R_icmp_ne (off := 18) (t := 121) (by decide +kernel) (by decide +kernel)).trans (ite_congr rfl (fun c5 => ?_) (fun c5 => ?_))
      · refine (R_pure0 (ins := .aload_n 0) (len := 1) (loc' := [.ref 68, .int x1, .int x2, .int ((xw mi 88 x2.toNatClampNeg ((mi 88 x2.toNatClampNeg) + 1)) 88 x2.toNatClampNeg), xmk]) (st' := [.ref 68]) (by decide +kernel) (fun _ => rfl)).trans ?_
        refine (R_gr (i := 69) (ci := 10) (k := 30) (n := 33) (b := 87) (by decide +kernel) (by decide +kernel) (by decide) rfl (SH_ref (by decide +kernel))).trans ?_
        refine (R_bipush (n := 7) (v := 7) (by decide +kernel) (by decide +kernel)).trans ?_
        refine (R_pure0 (ins := .iload_n 2) (len := 1) (loc' := [.ref 68, .int x1, .int x2, .int ((xw mi 88 x2.toNatClampNeg ((mi 88 x2.toNatClampNeg) + 1)) 88 x2.toNatClampNeg), xmk]) (st' := [.int x2, .int 7, .ref 87]) (by decide +kernel) (fun _ => rfl)).trans ?_
        refine (R_pure0 (ins := .imul) (len := 1) (loc' := [.ref 68, .int x1, .int x2, .int ((xw mi 88 x2.toNatClampNeg ((mi 88 x2.toNatClampNeg) + 1)) 88 x2.toNatClampNeg), xmk]) (st' := [.int (7 * x2), .ref 87]) (by decide +kernel) (fun _ => rfl)).trans ?_
        refine (R_bipush (n := 6) (v := 6) (by decide +kernel) (by decide +kernel)).trans ?_
        refine (R_pure0 (ins := .iadd) (len := 1) (loc' := [.ref 68, .int x1, .int x2, .int ((xw mi 88 x2.toNatClampNeg ((mi 88 x2.toNatClampNeg) + 1)) 88 x2.toNatClampNeg), xmk]) (st' := [.int ((7 * x2) + 6), .ref 87]) (by decide +kernel) (fun _ => rfl)).trans ?_
        refine (R_iaload (kd := 100) (n := 42) (by decide +kernel) rfl (by decide) (h9 c0 c4 c5)).trans ?_
        refine (R_goto (off := 9) (t := 127) (by decide +kernel) (by decide +kernel)).trans ?_
        refine (R_pure0 (ins := .istore 4) (len := 2) (loc' := [.ref 68, .int x1, .int x2, .int ((xw mi 88 x2.toNatClampNeg ((mi 88 x2.toNatClampNeg) + 1)) 88 x2.toNatClampNeg), .int ((xw mi 88 x2.toNatClampNeg ((mi 88 x2.toNatClampNeg) + 1)) 87 ((7 * x2) + 6).toNatClampNeg)]) (st' := []) (by decide +kernel) (fun _ => rfl)).trans ?_
        refine (R_pure0 (ins := .iload_n 2) (len := 1) (loc' := [.ref 68, .int x1, .int x2, .int ((xw mi 88 x2.toNatClampNeg ((mi 88 x2.toNatClampNeg) + 1)) 88 x2.toNatClampNeg), .int ((xw mi 88 x2.toNatClampNeg ((mi 88 x2.toNatClampNeg) + 1)) 87 ((7 * x2) + 6).toNatClampNeg)]) (st' := [.int x2]) (by decide +kernel) (fun _ => rfl)).trans ?_
        refine (R_if_ne (off := 6) (t := 136) (by decide +kernel) (by decide +kernel)).trans (ite_congr rfl (fun c6 => ?_) (fun c6 => ?_))
        · refine (R_pure0 (ins := .iload 4) (len := 2) (loc' := [.ref 68, .int x1, .int x2, .int ((xw mi 88 x2.toNatClampNeg ((mi 88 x2.toNatClampNeg) + 1)) 88 x2.toNatClampNeg), .int ((xw mi 88 x2.toNatClampNeg ((mi 88 x2.toNatClampNeg) + 1)) 87 ((7 * x2) + 6).toNatClampNeg)]) (st' := [.int ((xw mi 88 x2.toNatClampNeg ((mi 88 x2.toNatClampNeg) + 1)) 87 ((7 * x2) + 6).toNatClampNeg)]) (by decide +kernel) (fun _ => rfl)).trans ?_
          exact R_ireturn (by decide +kernel) (by decide +kernel)
        · refine (R_iinc (k := 2) (n := (-1)) (x := x2) (v := (x2 + (-1))) (loc' := [.ref 68, .int x1, .int (x2 + (-1)), .int ((xw mi 88 x2.toNatClampNeg ((mi 88 x2.toNatClampNeg) + 1)) 88 x2.toNatClampNeg), .int ((xw mi 88 x2.toNatClampNeg ((mi 88 x2.toNatClampNeg) + 1)) 87 ((7 * x2) + 6).toNatClampNeg)]) (by decide +kernel) rfl rfl rfl).trans ?_
          refine (R_pure0 (ins := .aload_n 0) (len := 1) (loc' := [.ref 68, .int x1, .int (x2 + (-1)), .int ((xw mi 88 x2.toNatClampNeg ((mi 88 x2.toNatClampNeg) + 1)) 88 x2.toNatClampNeg), .int ((xw mi 88 x2.toNatClampNeg ((mi 88 x2.toNatClampNeg) + 1)) 87 ((7 * x2) + 6).toNatClampNeg)]) (st' := [.ref 68]) (by decide +kernel) (fun _ => rfl)).trans ?_
          refine (R_pure0 (ins := .iload_n 2) (len := 1) (loc' := [.ref 68, .int x1, .int (x2 + (-1)), .int ((xw mi 88 x2.toNatClampNeg ((mi 88 x2.toNatClampNeg) + 1)) 88 x2.toNatClampNeg), .int ((xw mi 88 x2.toNatClampNeg ((mi 88 x2.toNatClampNeg) + 1)) 87 ((7 * x2) + 6).toNatClampNeg)]) (st' := [.int (x2 + (-1)), .ref 68]) (by decide +kernel) (fun _ => rfl)).trans ?_
          refine (R_pure0 (ins := .iload 4) (len := 2) (loc' := [.ref 68, .int x1, .int (x2 + (-1)), .int ((xw mi 88 x2.toNatClampNeg ((mi 88 x2.toNatClampNeg) + 1)) 88 x2.toNatClampNeg), .int ((xw mi 88 x2.toNatClampNeg ((mi 88 x2.toNatClampNeg) + 1)) 87 ((7 * x2) + 6).toNatClampNeg)]) (st' := [.int ((xw mi 88 x2.toNatClampNeg ((mi 88 x2.toNatClampNeg) + 1)) 87 ((7 * x2) + 6).toNatClampNeg), .int (x2 + (-1)), .ref 68]) (by decide +kernel) (fun _ => rfl)).trans ?_
          refine (R_virt (i := 266) (f := 222) (kd := 0) (na := 2) (ml := 4) (ci := 10) (n := 33) (b := 68) (As := [.int (x2 + (-1)), .int ((xw mi 88 x2.toNatClampNeg ((mi 88 x2.toNatClampNeg) + 1)) 87 ((7 * x2) + 6).toNatClampNeg)]) (rest := []) (by decide +kernel) (by decide +kernel) (by decide) (by decide +kernel) rfl (by decide +kernel) rfl rfl (by decide +kernel) (Nat.le_of_ble_eq_true rfl)).trans ?_
          rfl
      · refine (R_pure0 (ins := .aload_n 0) (len := 1) (loc' := [.ref 68, .int x1, .int x2, .int ((xw mi 88 x2.toNatClampNeg ((mi 88 x2.toNatClampNeg) + 1)) 88 x2.toNatClampNeg), xmk]) (st' := [.ref 68]) (by decide +kernel) (fun _ => rfl)).trans ?_
        refine (R_gr (i := 75) (ci := 10) (k := 32) (n := 33) (b := 89) (by decide +kernel) (by decide +kernel) (by decide) rfl (SH_ref (by decide +kernel))).trans ?_
        refine (R_pure0 (ins := .iload_n 2) (len := 1) (loc' := [.ref 68, .int x1, .int x2, .int ((xw mi 88 x2.toNatClampNeg ((mi 88 x2.toNatClampNeg) + 1)) 88 x2.toNatClampNeg), xmk]) (st' := [.int x2, .ref 89]) (by decide +kernel) (fun _ => rfl)).trans ?_
        refine (R_iaload (kd := 100) (n := 6) (by decide +kernel) rfl (by decide) (h10 c0 c4 c5)).trans ?_
        refine (R_pure0 (ins := .istore 4) (len := 2) (loc' := [.ref 68, .int x1, .int x2, .int ((xw mi 88 x2.toNatClampNeg ((mi 88 x2.toNatClampNeg) + 1)) 88 x2.toNatClampNeg), .int ((xw mi 88 x2.toNatClampNeg ((mi 88 x2.toNatClampNeg) + 1)) 89 x2.toNatClampNeg)]) (st' := []) (by decide +kernel) (fun _ => rfl)).trans ?_
        refine (R_pure0 (ins := .iload_n 2) (len := 1) (loc' := [.ref 68, .int x1, .int x2, .int ((xw mi 88 x2.toNatClampNeg ((mi 88 x2.toNatClampNeg) + 1)) 88 x2.toNatClampNeg), .int ((xw mi 88 x2.toNatClampNeg ((mi 88 x2.toNatClampNeg) + 1)) 89 x2.toNatClampNeg)]) (st' := [.int x2]) (by decide +kernel) (fun _ => rfl)).trans ?_
        refine (R_if_ne (off := 6) (t := 136) (by decide +kernel) (by decide +kernel)).trans (ite_congr rfl (fun c7 => ?_) (fun c7 => ?_))
        · refine (R_pure0 (ins := .iload 4) (len := 2) (loc' := [.ref 68, .int x1, .int x2, .int ((xw mi 88 x2.toNatClampNeg ((mi 88 x2.toNatClampNeg) + 1)) 88 x2.toNatClampNeg), .int ((xw mi 88 x2.toNatClampNeg ((mi 88 x2.toNatClampNeg) + 1)) 89 x2.toNatClampNeg)]) (st' := [.int ((xw mi 88 x2.toNatClampNeg ((mi 88 x2.toNatClampNeg) + 1)) 89 x2.toNatClampNeg)]) (by decide +kernel) (fun _ => rfl)).trans ?_
          exact R_ireturn (by decide +kernel) (by decide +kernel)
        · refine (R_iinc (k := 2) (n := (-1)) (x := x2) (v := (x2 + (-1))) (loc' := [.ref 68, .int x1, .int (x2 + (-1)), .int ((xw mi 88 x2.toNatClampNeg ((mi 88 x2.toNatClampNeg) + 1)) 88 x2.toNatClampNeg), .int ((xw mi 88 x2.toNatClampNeg ((mi 88 x2.toNatClampNeg) + 1)) 89 x2.toNatClampNeg)]) (by decide +kernel) rfl rfl rfl).trans ?_
          refine (R_pure0 (ins := .aload_n 0) (len := 1) (loc' := [.ref 68, .int x1, .int (x2 + (-1)), .int ((xw mi 88 x2.toNatClampNeg ((mi 88 x2.toNatClampNeg) + 1)) 88 x2.toNatClampNeg), .int ((xw mi 88 x2.toNatClampNeg ((mi 88 x2.toNatClampNeg) + 1)) 89 x2.toNatClampNeg)]) (st' := [.ref 68]) (by decide +kernel) (fun _ => rfl)).trans ?_
          refine (R_pure0 (ins := .iload_n 2) (len := 1) (loc' := [.ref 68, .int x1, .int (x2 + (-1)), .int ((xw mi 88 x2.toNatClampNeg ((mi 88 x2.toNatClampNeg) + 1)) 88 x2.toNatClampNeg), .int ((xw mi 88 x2.toNatClampNeg ((mi 88 x2.toNatClampNeg) + 1)) 89 x2.toNatClampNeg)]) (st' := [.int (x2 + (-1)), .ref 68]) (by decide +kernel) (fun _ => rfl)).trans ?_
          refine (R_pure0 (ins := .iload 4) (len := 2) (loc' := [.ref 68, .int x1, .int (x2 + (-1)), .int ((xw mi 88 x2.toNatClampNeg ((mi 88 x2.toNatClampNeg) + 1)) 88 x2.toNatClampNeg), .int ((xw mi 88 x2.toNatClampNeg ((mi 88 x2.toNatClampNeg) + 1)) 89 x2.toNatClampNeg)]) (st' := [.int ((xw mi 88 x2.toNatClampNeg ((mi 88 x2.toNatClampNeg) + 1)) 89 x2.toNatClampNeg), .int (x2 + (-1)), .ref 68]) (by decide +kernel) (fun _ => rfl)).trans ?_
          refine (R_virt (i := 266) (f := 222) (kd := 0) (na := 2) (ml := 4) (ci := 10) (n := 33) (b := 68) (As := [.int (x2 + (-1)), .int ((xw mi 88 x2.toNatClampNeg ((mi 88 x2.toNatClampNeg) + 1)) 89 x2.toNatClampNeg)]) (rest := []) (by decide +kernel) (by decide +kernel) (by decide) (by decide +kernel) rfl (by decide +kernel) rfl rfl (by decide +kernel) (Nat.le_of_ble_eq_true rfl)).trans ?_
          rfl
theorem s223_192 {L : Nat} {mi : Nat → Nat → Int32} {ml : Nat → Nat → Int64} {d : Nat} {Q : Option Value → xM → Prop} {x1 x2 x3 : Int32} (h1 : xin ((7 * (x2 + 1)) + 6) 42 = true) (h2 : xin ((7 * (x2 + 1)) + x3) 42 = true) : X 223 192 [.ref 68, .int x1, .int x2, .int x3, xmk] [] (SH L, mi, ml, MR) (d + 1) Q =
    Xm 180 [.ref 68, .int x3, .int (mi 87 ((7 * (x2 + 1)) + x3).toNatClampNeg)] (SH L, mi, ml, MR) d (fun v μ' => X 223 224 [.ref 68, .int x1, .int (x2 + 1), .int x3, xmk] (v.toList ++ [.int (mi 87 ((7 * (x2 + 1)) + 6).toNatClampNeg), .int ((7 * (x2 + 1)) + 6), .ref 87]) μ' (d + 1) Q) := by
  refine (R_iinc (k := 2) (n := 1) (x := x2) (v := (x2 + 1)) (loc' := [.ref 68, .int x1, .int (x2 + 1), .int x3, xmk]) (by decide +kernel) rfl rfl rfl).trans ?_
  refine (R_pure0 (ins := .aload_n 0) (len := 1) (loc' := [.ref 68, .int x1, .int (x2 + 1), .int x3, xmk]) (st' := [.ref 68]) (by decide +kernel) (fun _ => rfl)).trans ?_
  refine (R_gr (i := 69) (ci := 10) (k := 30) (n := 33) (b := 87) (by decide +kernel) (by decide +kernel) (by decide) rfl (SH_ref (by decide +kernel))).trans ?_
  refine (R_bipush (n := 7) (v := 7) (by decide +kernel) (by decide +kernel)).trans ?_
  refine (R_pure0 (ins := .iload_n 2) (len := 1) (loc' := [.ref 68, .int x1, .int (x2 + 1), .int x3, xmk]) (st' := [.int (x2 + 1), .int 7, .ref 87]) (by decide +kernel) (fun _ => rfl)).trans ?_
  refine (R_pure0 (ins := .imul) (len := 1) (loc' := [.ref 68, .int x1, .int (x2 + 1), .int x3, xmk]) (st' := [.int (7 * (x2 + 1)), .ref 87]) (by decide +kernel) (fun _ => rfl)).trans ?_
  refine (R_bipush (n := 6) (v := 6) (by decide +kernel) (by decide +kernel)).trans ?_
  refine (R_pure0 (ins := .iadd) (len := 1) (loc' := [.ref 68, .int x1, .int (x2 + 1), .int x3, xmk]) (st' := [.int ((7 * (x2 + 1)) + 6), .ref 87]) (by decide +kernel) (fun _ => rfl)).trans ?_
  refine (R_pure0 (ins := .dup2) (len := 1) (loc' := [.ref 68, .int x1, .int (x2 + 1), .int x3, xmk]) (st' := [.int ((7 * (x2 + 1)) + 6), .ref 87, .int ((7 * (x2 + 1)) + 6), .ref 87]) (by decide +kernel) (fun _ => rfl)).trans ?_
  refine (R_iaload (kd := 100) (n := 42) (by decide +kernel) rfl (by decide) (h1)).trans ?_
  refine (R_pure0 (ins := .aload_n 0) (len := 1) (loc' := [.ref 68, .int x1, .int (x2 + 1), .int x3, xmk]) (st' := [.ref 68, .int (mi 87 ((7 * (x2 + 1)) + 6).toNatClampNeg), .int ((7 * (x2 + 1)) + 6), .ref 87]) (by decide +kernel) (fun _ => rfl)).trans ?_
  refine (R_pure0 (ins := .iload_n 3) (len := 1) (loc' := [.ref 68, .int x1, .int (x2 + 1), .int x3, xmk]) (st' := [.int x3, .ref 68, .int (mi 87 ((7 * (x2 + 1)) + 6).toNatClampNeg), .int ((7 * (x2 + 1)) + 6), .ref 87]) (by decide +kernel) (fun _ => rfl)).trans ?_
  refine (R_pure0 (ins := .aload_n 0) (len := 1) (loc' := [.ref 68, .int x1, .int (x2 + 1), .int x3, xmk]) (st' := [.ref 68, .int x3, .ref 68, .int (mi 87 ((7 * (x2 + 1)) + 6).toNatClampNeg), .int ((7 * (x2 + 1)) + 6), .ref 87]) (by decide +kernel) (fun _ => rfl)).trans ?_
  refine (R_gr (i := 69) (ci := 10) (k := 30) (n := 33) (b := 87) (by decide +kernel) (by decide +kernel) (by decide) rfl (SH_ref (by decide +kernel))).trans ?_
  refine (R_bipush (n := 7) (v := 7) (by decide +kernel) (by decide +kernel)).trans ?_
  refine (R_pure0 (ins := .iload_n 2) (len := 1) (loc' := [.ref 68, .int x1, .int (x2 + 1), .int x3, xmk]) (st' := [.int (x2 + 1), .int 7, .ref 87, .int x3, .ref 68, .int (mi 87 ((7 * (x2 + 1)) + 6).toNatClampNeg), .int ((7 * (x2 + 1)) + 6), .ref 87]) (by decide +kernel) (fun _ => rfl)).trans ?_
  refine (R_pure0 (ins := .imul) (len := 1) (loc' := [.ref 68, .int x1, .int (x2 + 1), .int x3, xmk]) (st' := [.int (7 * (x2 + 1)), .ref 87, .int x3, .ref 68, .int (mi 87 ((7 * (x2 + 1)) + 6).toNatClampNeg), .int ((7 * (x2 + 1)) + 6), .ref 87]) (by decide +kernel) (fun _ => rfl)).trans ?_
  refine (R_pure0 (ins := .iload_n 3) (len := 1) (loc' := [.ref 68, .int x1, .int (x2 + 1), .int x3, xmk]) (st' := [.int x3, .int (7 * (x2 + 1)), .ref 87, .int x3, .ref 68, .int (mi 87 ((7 * (x2 + 1)) + 6).toNatClampNeg), .int ((7 * (x2 + 1)) + 6), .ref 87]) (by decide +kernel) (fun _ => rfl)).trans ?_
  refine (R_pure0 (ins := .iadd) (len := 1) (loc' := [.ref 68, .int x1, .int (x2 + 1), .int x3, xmk]) (st' := [.int ((7 * (x2 + 1)) + x3), .ref 87, .int x3, .ref 68, .int (mi 87 ((7 * (x2 + 1)) + 6).toNatClampNeg), .int ((7 * (x2 + 1)) + 6), .ref 87]) (by decide +kernel) (fun _ => rfl)).trans ?_
  refine (R_iaload (kd := 100) (n := 42) (by decide +kernel) rfl (by decide) (h2)).trans ?_
  refine (R_virt (i := 178) (f := 180) (kd := 0) (na := 2) (ml := 3) (ci := 10) (n := 33) (b := 68) (As := [.int x3, .int (mi 87 ((7 * (x2 + 1)) + x3).toNatClampNeg)]) (rest := [.int (mi 87 ((7 * (x2 + 1)) + 6).toNatClampNeg), .int ((7 * (x2 + 1)) + 6), .ref 87]) (by decide +kernel) (by decide +kernel) (by decide) (by decide +kernel) rfl (by decide +kernel) rfl rfl (by decide +kernel) (Nat.le_of_ble_eq_true rfl)).trans ?_
  rfl
theorem s223_165v2 {L : Nat} {mi : Nat → Nat → Int32} {ml : Nat → Nat → Int64} {d : Nat} {Q : Option Value → xM → Prop} {x1 x2 x3 x4 y : Int32} : X 223 165 [.ref 68, .int x1, .int x2, .int x3, .int x4] [.int y] (SH L, mi, ml, MR) (d + 1) Q =
    if (y = 0) then (X 223 65 [.ref 68, .int x1, .int x2, .int x3, .int x4] [] (SH L, mi, ml, MR) (d + 1) Q) else (Xm 188 [.ref 87, .int (7 * x2), .ref 87, .int ((7 * x2) + 7), .int 7] (SH L, mi, ml, MR) d (fun v μ' => X 223 192 [.ref 68, .int x1, .int x2, .int x3, .int x4] (v.toList ++ []) μ' (d + 1) Q)) := by
  refine (R_if_eq (off := 91) (t := 256) (by decide +kernel) (by decide +kernel)).trans (ite_congr rfl (fun c0 => ?_) (fun c0 => ?_))
  · refine (R_goto (off := (-191)) (t := 65) (by decide +kernel) (by decide +kernel)).trans ?_
    rfl
  · refine (R_pure0 (ins := .aload_n 0) (len := 1) (loc' := [.ref 68, .int x1, .int x2, .int x3, .int x4]) (st' := [.ref 68]) (by decide +kernel) (fun _ => rfl)).trans ?_
    refine (R_gr (i := 69) (ci := 10) (k := 30) (n := 33) (b := 87) (by decide +kernel) (by decide +kernel) (by decide) rfl (SH_ref (by decide +kernel))).trans ?_
    refine (R_bipush (n := 7) (v := 7) (by decide +kernel) (by decide +kernel)).trans ?_
    refine (R_pure0 (ins := .iload_n 2) (len := 1) (loc' := [.ref 68, .int x1, .int x2, .int x3, .int x4]) (st' := [.int x2, .int 7, .ref 87]) (by decide +kernel) (fun _ => rfl)).trans ?_
    refine (R_pure0 (ins := .imul) (len := 1) (loc' := [.ref 68, .int x1, .int x2, .int x3, .int x4]) (st' := [.int (7 * x2), .ref 87]) (by decide +kernel) (fun _ => rfl)).trans ?_
    refine (R_pure0 (ins := .aload_n 0) (len := 1) (loc' := [.ref 68, .int x1, .int x2, .int x3, .int x4]) (st' := [.ref 68, .int (7 * x2), .ref 87]) (by decide +kernel) (fun _ => rfl)).trans ?_
    refine (R_gr (i := 69) (ci := 10) (k := 30) (n := 33) (b := 87) (by decide +kernel) (by decide +kernel) (by decide) rfl (SH_ref (by decide +kernel))).trans ?_
    refine (R_bipush (n := 7) (v := 7) (by decide +kernel) (by decide +kernel)).trans ?_
    refine (R_pure0 (ins := .iload_n 2) (len := 1) (loc' := [.ref 68, .int x1, .int x2, .int x3, .int x4]) (st' := [.int x2, .int 7, .ref 87, .int (7 * x2), .ref 87]) (by decide +kernel) (fun _ => rfl)).trans ?_
    refine (R_pure0 (ins := .imul) (len := 1) (loc' := [.ref 68, .int x1, .int x2, .int x3, .int x4]) (st' := [.int (7 * x2), .ref 87, .int (7 * x2), .ref 87]) (by decide +kernel) (fun _ => rfl)).trans ?_
    refine (R_bipush (n := 7) (v := 7) (by decide +kernel) (by decide +kernel)).trans ?_
    refine (R_pure0 (ins := .iadd) (len := 1) (loc' := [.ref 68, .int x1, .int x2, .int x3, .int x4]) (st' := [.int ((7 * x2) + 7), .ref 87, .int (7 * x2), .ref 87]) (by decide +kernel) (fun _ => rfl)).trans ?_
    refine (R_bipush (n := 7) (v := 7) (by decide +kernel) (by decide +kernel)).trans ?_
    refine (R_static (i := 184) (f := 188) (kd := 2) (na := 5) (ml := 6) (As := [.ref 87, .int (7 * x2), .ref 87, .int ((7 * x2) + 7), .int 7]) (rest := []) (by decide +kernel) (by decide +kernel) (by decide) (by decide +kernel) rfl rfl (by decide +kernel) (Nat.le_of_ble_eq_true rfl)).trans ?_
    rfl
theorem s223_224 {L : Nat} {mi : Nat → Nat → Int32} {ml : Nat → Nat → Int64} {d : Nat} {Q : Option Value → xM → Prop} {x1 x2 x3 y z0 z1 : Int32} (h1 : xin z1 42 = true) (h2 : xin ((7 * x2) + x3) 42 = true) (h3 : xin ((7 * x2) + x3) 42 = true) (h4 : xin x2 6 = true) (h5 : xin x2 6 = true) : X 223 224 [.ref 68, .int x1, .int x2, .int x3, xmk] [.int y, .int z0, .int z1, .ref 87] (SH L, mi, ml, MR) d Q =
    X 223 65 [.ref 68, .int x1, .int x2, .int x3, xmk] [] (SH L, (xw (xw (xw (xw mi 87 z1.toNatClampNeg (z0 + y)) 87 ((7 * x2) + x3).toNatClampNeg (((xw mi 87 z1.toNatClampNeg (z0 + y)) 87 ((7 * x2) + x3).toNatClampNeg) + 1)) 88 x2.toNatClampNeg (-1)) 89 x2.toNatClampNeg (-9)), ml, MR) d Q := by
  refine (R_pure0 (ins := .iadd) (len := 1) (loc' := [.ref 68, .int x1, .int x2, .int x3, xmk]) (st' := [.int (z0 + y), .int z1, .ref 87]) (by decide +kernel) (fun _ => rfl)).trans ?_
  refine (R_iastore (n := 42) (by decide +kernel) rfl (h1)).trans ?_
  refine (R_pure0 (ins := .aload_n 0) (len := 1) (loc' := [.ref 68, .int x1, .int x2, .int x3, xmk]) (st' := [.ref 68]) (by decide +kernel) (fun _ => rfl)).trans ?_
  refine (R_gr (i := 69) (ci := 10) (k := 30) (n := 33) (b := 87) (by decide +kernel) (by decide +kernel) (by decide) rfl (SH_ref (by decide +kernel))).trans ?_
  refine (R_bipush (n := 7) (v := 7) (by decide +kernel) (by decide +kernel)).trans ?_
  refine (R_pure0 (ins := .iload_n 2) (len := 1) (loc' := [.ref 68, .int x1, .int x2, .int x3, xmk]) (st' := [.int x2, .int 7, .ref 87]) (by decide +kernel) (fun _ => rfl)).trans ?_
  refine (R_pure0 (ins := .imul) (len := 1) (loc' := [.ref 68, .int x1, .int x2, .int x3, xmk]) (st' := [.int (7 * x2), .ref 87]) (by decide +kernel) (fun _ => rfl)).trans ?_
  refine (R_pure0 (ins := .iload_n 3) (len := 1) (loc' := [.ref 68, .int x1, .int x2, .int x3, xmk]) (st' := [.int x3, .int (7 * x2), .ref 87]) (by decide +kernel) (fun _ => rfl)).trans ?_
  refine (R_pure0 (ins := .iadd) (len := 1) (loc' := [.ref 68, .int x1, .int x2, .int x3, xmk]) (st' := [.int ((7 * x2) + x3), .ref 87]) (by decide +kernel) (fun _ => rfl)).trans ?_
  refine (R_pure0 (ins := .dup2) (len := 1) (loc' := [.ref 68, .int x1, .int x2, .int x3, xmk]) (st' := [.int ((7 * x2) + x3), .ref 87, .int ((7 * x2) + x3), .ref 87]) (by decide +kernel) (fun _ => rfl)).trans ?_
  refine (R_iaload (kd := 100) (n := 42) (by decide +kernel) rfl (by decide) (h2)).trans ?_
  refine (R_iconst (n := 1) (v := 1) (by decide +kernel) (by decide +kernel)).trans ?_
  refine (R_pure0 (ins := .iadd) (len := 1) (loc' := [.ref 68, .int x1, .int x2, .int x3, xmk]) (st' := [.int (((xw mi 87 z1.toNatClampNeg (z0 + y)) 87 ((7 * x2) + x3).toNatClampNeg) + 1), .int ((7 * x2) + x3), .ref 87]) (by decide +kernel) (fun _ => rfl)).trans ?_
  refine (R_iastore (n := 42) (by decide +kernel) rfl (h3)).trans ?_
  refine (R_pure0 (ins := .aload_n 0) (len := 1) (loc' := [.ref 68, .int x1, .int x2, .int x3, xmk]) (st' := [.ref 68]) (by decide +kernel) (fun _ => rfl)).trans ?_
  refine (R_gr (i := 72) (ci := 10) (k := 31) (n := 33) (b := 88) (by decide +kernel) (by decide +kernel) (by decide) rfl (SH_ref (by decide +kernel))).trans ?_
  refine (R_pure0 (ins := .iload_n 2) (len := 1) (loc' := [.ref 68, .int x1, .int x2, .int x3, xmk]) (st' := [.int x2, .ref 88]) (by decide +kernel) (fun _ => rfl)).trans ?_
  refine (R_iconst (n := (-1)) (v := (-1)) (by decide +kernel) (by decide +kernel)).trans ?_
  refine (R_iastore (n := 6) (by decide +kernel) rfl (h4)).trans ?_
  refine (R_pure0 (ins := .aload_n 0) (len := 1) (loc' := [.ref 68, .int x1, .int x2, .int x3, xmk]) (st' := [.ref 68]) (by decide +kernel) (fun _ => rfl)).trans ?_
  refine (R_gr (i := 75) (ci := 10) (k := 32) (n := 33) (b := 89) (by decide +kernel) (by decide +kernel) (by decide) rfl (SH_ref (by decide +kernel))).trans ?_
  refine (R_pure0 (ins := .iload_n 2) (len := 1) (loc' := [.ref 68, .int x1, .int x2, .int x3, xmk]) (st' := [.int x2, .ref 89]) (by decide +kernel) (fun _ => rfl)).trans ?_
  refine (R_bipush (n := (-9)) (v := (-9)) (by decide +kernel) (by decide +kernel)).trans ?_
  refine (R_iastore (n := 6) (by decide +kernel) rfl (h5)).trans ?_
  refine (R_goto (off := (-191)) (t := 65) (by decide +kernel) (by decide +kernel)).trans ?_
  rfl
theorem s223_192v2 {L : Nat} {mi : Nat → Nat → Int32} {ml : Nat → Nat → Int64} {d : Nat} {Q : Option Value → xM → Prop} {x1 x2 x3 x4 : Int32} (h1 : xin ((7 * (x2 + 1)) + 6) 42 = true) (h2 : xin ((7 * (x2 + 1)) + x3) 42 = true) : X 223 192 [.ref 68, .int x1, .int x2, .int x3, .int x4] [] (SH L, mi, ml, MR) (d + 1) Q =
    Xm 180 [.ref 68, .int x3, .int (mi 87 ((7 * (x2 + 1)) + x3).toNatClampNeg)] (SH L, mi, ml, MR) d (fun v μ' => X 223 224 [.ref 68, .int x1, .int (x2 + 1), .int x3, .int x4] (v.toList ++ [.int (mi 87 ((7 * (x2 + 1)) + 6).toNatClampNeg), .int ((7 * (x2 + 1)) + 6), .ref 87]) μ' (d + 1) Q) := by
  refine (R_iinc (k := 2) (n := 1) (x := x2) (v := (x2 + 1)) (loc' := [.ref 68, .int x1, .int (x2 + 1), .int x3, .int x4]) (by decide +kernel) rfl rfl rfl).trans ?_
  refine (R_pure0 (ins := .aload_n 0) (len := 1) (loc' := [.ref 68, .int x1, .int (x2 + 1), .int x3, .int x4]) (st' := [.ref 68]) (by decide +kernel) (fun _ => rfl)).trans ?_
  refine (R_gr (i := 69) (ci := 10) (k := 30) (n := 33) (b := 87) (by decide +kernel) (by decide +kernel) (by decide) rfl (SH_ref (by decide +kernel))).trans ?_
  refine (R_bipush (n := 7) (v := 7) (by decide +kernel) (by decide +kernel)).trans ?_
  refine (R_pure0 (ins := .iload_n 2) (len := 1) (loc' := [.ref 68, .int x1, .int (x2 + 1), .int x3, .int x4]) (st' := [.int (x2 + 1), .int 7, .ref 87]) (by decide +kernel) (fun _ => rfl)).trans ?_
  refine (R_pure0 (ins := .imul) (len := 1) (loc' := [.ref 68, .int x1, .int (x2 + 1), .int x3, .int x4]) (st' := [.int (7 * (x2 + 1)), .ref 87]) (by decide +kernel) (fun _ => rfl)).trans ?_
  refine (R_bipush (n := 6) (v := 6) (by decide +kernel) (by decide +kernel)).trans ?_
  refine (R_pure0 (ins := .iadd) (len := 1) (loc' := [.ref 68, .int x1, .int (x2 + 1), .int x3, .int x4]) (st' := [.int ((7 * (x2 + 1)) + 6), .ref 87]) (by decide +kernel) (fun _ => rfl)).trans ?_
  refine (R_pure0 (ins := .dup2) (len := 1) (loc' := [.ref 68, .int x1, .int (x2 + 1), .int x3, .int x4]) (st' := [.int ((7 * (x2 + 1)) + 6), .ref 87, .int ((7 * (x2 + 1)) + 6), .ref 87]) (by decide +kernel) (fun _ => rfl)).trans ?_
  refine (R_iaload (kd := 100) (n := 42) (by decide +kernel) rfl (by decide) (h1)).trans ?_
  refine (R_pure0 (ins := .aload_n 0) (len := 1) (loc' := [.ref 68, .int x1, .int (x2 + 1), .int x3, .int x4]) (st' := [.ref 68, .int (mi 87 ((7 * (x2 + 1)) + 6).toNatClampNeg), .int ((7 * (x2 + 1)) + 6), .ref 87]) (by decide +kernel) (fun _ => rfl)).trans ?_
  refine (R_pure0 (ins := .iload_n 3) (len := 1) (loc' := [.ref 68, .int x1, .int (x2 + 1), .int x3, .int x4]) (st' := [.int x3, .ref 68, .int (mi 87 ((7 * (x2 + 1)) + 6).toNatClampNeg), .int ((7 * (x2 + 1)) + 6), .ref 87]) (by decide +kernel) (fun _ => rfl)).trans ?_
  refine (R_pure0 (ins := .aload_n 0) (len := 1) (loc' := [.ref 68, .int x1, .int (x2 + 1), .int x3, .int x4]) (st' := [.ref 68, .int x3, .ref 68, .int (mi 87 ((7 * (x2 + 1)) + 6).toNatClampNeg), .int ((7 * (x2 + 1)) + 6), .ref 87]) (by decide +kernel) (fun _ => rfl)).trans ?_
  refine (R_gr (i := 69) (ci := 10) (k := 30) (n := 33) (b := 87) (by decide +kernel) (by decide +kernel) (by decide) rfl (SH_ref (by decide +kernel))).trans ?_
  refine (R_bipush (n := 7) (v := 7) (by decide +kernel) (by decide +kernel)).trans ?_
  refine (R_pure0 (ins := .iload_n 2) (len := 1) (loc' := [.ref 68, .int x1, .int (x2 + 1), .int x3, .int x4]) (st' := [.int (x2 + 1), .int 7, .ref 87, .int x3, .ref 68, .int (mi 87 ((7 * (x2 + 1)) + 6).toNatClampNeg), .int ((7 * (x2 + 1)) + 6), .ref 87]) (by decide +kernel) (fun _ => rfl)).trans ?_
  refine (R_pure0 (ins := .imul) (len := 1) (loc' := [.ref 68, .int x1, .int (x2 + 1), .int x3, .int x4]) (st' := [.int (7 * (x2 + 1)), .ref 87, .int x3, .ref 68, .int (mi 87 ((7 * (x2 + 1)) + 6).toNatClampNeg), .int ((7 * (x2 + 1)) + 6), .ref 87]) (by decide +kernel) (fun _ => rfl)).trans ?_
  refine (R_pure0 (ins := .iload_n 3) (len := 1) (loc' := [.ref 68, .int x1, .int (x2 + 1), .int x3, .int x4]) (st' := [.int x3, .int (7 * (x2 + 1)), .ref 87, .int x3, .ref 68, .int (mi 87 ((7 * (x2 + 1)) + 6).toNatClampNeg), .int ((7 * (x2 + 1)) + 6), .ref 87]) (by decide +kernel) (fun _ => rfl)).trans ?_
  refine (R_pure0 (ins := .iadd) (len := 1) (loc' := [.ref 68, .int x1, .int (x2 + 1), .int x3, .int x4]) (st' := [.int ((7 * (x2 + 1)) + x3), .ref 87, .int x3, .ref 68, .int (mi 87 ((7 * (x2 + 1)) + 6).toNatClampNeg), .int ((7 * (x2 + 1)) + 6), .ref 87]) (by decide +kernel) (fun _ => rfl)).trans ?_
  refine (R_iaload (kd := 100) (n := 42) (by decide +kernel) rfl (by decide) (h2)).trans ?_
  refine (R_virt (i := 178) (f := 180) (kd := 0) (na := 2) (ml := 3) (ci := 10) (n := 33) (b := 68) (As := [.int x3, .int (mi 87 ((7 * (x2 + 1)) + x3).toNatClampNeg)]) (rest := [.int (mi 87 ((7 * (x2 + 1)) + 6).toNatClampNeg), .int ((7 * (x2 + 1)) + 6), .ref 87]) (by decide +kernel) (by decide +kernel) (by decide) (by decide +kernel) rfl (by decide +kernel) rfl rfl (by decide +kernel) (Nat.le_of_ble_eq_true rfl)).trans ?_
  rfl
theorem s223_224v2 {L : Nat} {mi : Nat → Nat → Int32} {ml : Nat → Nat → Int64} {d : Nat} {Q : Option Value → xM → Prop} {x1 x2 x3 x4 y z0 z1 : Int32} (h1 : xin z1 42 = true) (h2 : xin ((7 * x2) + x3) 42 = true) (h3 : xin ((7 * x2) + x3) 42 = true) (h4 : xin x2 6 = true) (h5 : xin x2 6 = true) : X 223 224 [.ref 68, .int x1, .int x2, .int x3, .int x4] [.int y, .int z0, .int z1, .ref 87] (SH L, mi, ml, MR) d Q =
    X 223 65 [.ref 68, .int x1, .int x2, .int x3, .int x4] [] (SH L, (xw (xw (xw (xw mi 87 z1.toNatClampNeg (z0 + y)) 87 ((7 * x2) + x3).toNatClampNeg (((xw mi 87 z1.toNatClampNeg (z0 + y)) 87 ((7 * x2) + x3).toNatClampNeg) + 1)) 88 x2.toNatClampNeg (-1)) 89 x2.toNatClampNeg (-9)), ml, MR) d Q := by
  refine (R_pure0 (ins := .iadd) (len := 1) (loc' := [.ref 68, .int x1, .int x2, .int x3, .int x4]) (st' := [.int (z0 + y), .int z1, .ref 87]) (by decide +kernel) (fun _ => rfl)).trans ?_
  refine (R_iastore (n := 42) (by decide +kernel) rfl (h1)).trans ?_
  refine (R_pure0 (ins := .aload_n 0) (len := 1) (loc' := [.ref 68, .int x1, .int x2, .int x3, .int x4]) (st' := [.ref 68]) (by decide +kernel) (fun _ => rfl)).trans ?_
  refine (R_gr (i := 69) (ci := 10) (k := 30) (n := 33) (b := 87) (by decide +kernel) (by decide +kernel) (by decide) rfl (SH_ref (by decide +kernel))).trans ?_
  refine (R_bipush (n := 7) (v := 7) (by decide +kernel) (by decide +kernel)).trans ?_
  refine (R_pure0 (ins := .iload_n 2) (len := 1) (loc' := [.ref 68, .int x1, .int x2, .int x3, .int x4]) (st' := [.int x2, .int 7, .ref 87]) (by decide +kernel) (fun _ => rfl)).trans ?_
  refine (R_pure0 (ins := .imul) (len := 1) (loc' := [.ref 68, .int x1, .int x2, .int x3, .int x4]) (st' := [.int (7 * x2), .ref 87]) (by decide +kernel) (fun _ => rfl)).trans ?_
  refine (R_pure0 (ins := .iload_n 3) (len := 1) (loc' := [.ref 68, .int x1, .int x2, .int x3, .int x4]) (st' := [.int x3, .int (7 * x2), .ref 87]) (by decide +kernel) (fun _ => rfl)).trans ?_
  refine (R_pure0 (ins := .iadd) (len := 1) (loc' := [.ref 68, .int x1, .int x2, .int x3, .int x4]) (st' := [.int ((7 * x2) + x3), .ref 87]) (by decide +kernel) (fun _ => rfl)).trans ?_
  refine (R_pure0 (ins := .dup2) (len := 1) (loc' := [.ref 68, .int x1, .int x2, .int x3, .int x4]) (st' := [.int ((7 * x2) + x3), .ref 87, .int ((7 * x2) + x3), .ref 87]) (by decide +kernel) (fun _ => rfl)).trans ?_
  refine (R_iaload (kd := 100) (n := 42) (by decide +kernel) rfl (by decide) (h2)).trans ?_
  refine (R_iconst (n := 1) (v := 1) (by decide +kernel) (by decide +kernel)).trans ?_
  refine (R_pure0 (ins := .iadd) (len := 1) (loc' := [.ref 68, .int x1, .int x2, .int x3, .int x4]) (st' := [.int (((xw mi 87 z1.toNatClampNeg (z0 + y)) 87 ((7 * x2) + x3).toNatClampNeg) + 1), .int ((7 * x2) + x3), .ref 87]) (by decide +kernel) (fun _ => rfl)).trans ?_
  refine (R_iastore (n := 42) (by decide +kernel) rfl (h3)).trans ?_
  refine (R_pure0 (ins := .aload_n 0) (len := 1) (loc' := [.ref 68, .int x1, .int x2, .int x3, .int x4]) (st' := [.ref 68]) (by decide +kernel) (fun _ => rfl)).trans ?_
  refine (R_gr (i := 72) (ci := 10) (k := 31) (n := 33) (b := 88) (by decide +kernel) (by decide +kernel) (by decide) rfl (SH_ref (by decide +kernel))).trans ?_
  refine (R_pure0 (ins := .iload_n 2) (len := 1) (loc' := [.ref 68, .int x1, .int x2, .int x3, .int x4]) (st' := [.int x2, .ref 88]) (by decide +kernel) (fun _ => rfl)).trans ?_
  refine (R_iconst (n := (-1)) (v := (-1)) (by decide +kernel) (by decide +kernel)).trans ?_
  refine (R_iastore (n := 6) (by decide +kernel) rfl (h4)).trans ?_
  refine (R_pure0 (ins := .aload_n 0) (len := 1) (loc' := [.ref 68, .int x1, .int x2, .int x3, .int x4]) (st' := [.ref 68]) (by decide +kernel) (fun _ => rfl)).trans ?_
  refine (R_gr (i := 75) (ci := 10) (k := 32) (n := 33) (b := 89) (by decide +kernel) (by decide +kernel) (by decide) rfl (SH_ref (by decide +kernel))).trans ?_
  refine (R_pure0 (ins := .iload_n 2) (len := 1) (loc' := [.ref 68, .int x1, .int x2, .int x3, .int x4]) (st' := [.int x2, .ref 89]) (by decide +kernel) (fun _ => rfl)).trans ?_
  refine (R_bipush (n := (-9)) (v := (-9)) (by decide +kernel) (by decide +kernel)).trans ?_
  refine (R_iastore (n := 6) (by decide +kernel) rfl (h5)).trans ?_
  refine (R_goto (off := (-191)) (t := 65) (by decide +kernel) (by decide +kernel)).trans ?_
  rfl
theorem s224 {L : Nat} {mi : Nat → Nat → Int32} {ml : Nat → Nat → Int64} {d : Nat} {Q : Option Value → xM → Prop} {x2 : Int32} {x0 : Int64} : Xm 224 [.long x0, .int x2] (SH L, mi, ml, MR) d Q =
    X 224 5 [.long x0, xmk, .int x2, .long 1, xmk, .int 0] [] (SH L, mi, ml, MR) d Q := by
  rw [Xm_ent (n := 6) (loc := [.long x0, xmk, .int x2, xmk, xmk, xmk]) (by decide +kernel) rfl]
  refine (R_lconst (n := 1) (v := 1) (by decide +kernel) (by decide +kernel)).trans ?_
  refine (R_pure0 (ins := .lstore_n 3) (len := 1) (loc' := [.long x0, xmk, .int x2, .long 1, xmk, xmk]) (st' := []) (by decide +kernel) (fun _ => rfl)).trans ?_
  refine (R_iconst (n := 0) (v := 0) (by decide +kernel) (by decide +kernel)).trans ?_
  refine (R_pure0 (ins := .istore 5) (len := 2) (loc' := [.long x0, xmk, .int x2, .long 1, xmk, .int 0]) (st' := []) (by decide +kernel) (fun _ => rfl)).trans ?_
  rfl
theorem s224_5 {L : Nat} {mi : Nat → Nat → Int32} {ml : Nat → Nat → Int64} {d : Nat} {Q : Option Value → xM → Prop} {x2 x5 : Int32} {x0 x3 : Int64} : X 224 5 [.long x0, xmk, .int x2, .long x3, xmk, .int x5] [] (SH L, mi, ml, MR) d Q =
    if (x5 < x2) then (X 224 5 [.long x0, xmk, .int x2, .long (x3 * x0), xmk, .int (x5 + 1)] [] (SH L, mi, ml, MR) d Q) else (Q (some (.long x3)) (SH L, mi, ml, MR)) := by
  refine (R_pure0 (ins := .iload 5) (len := 2) (loc' := [.long x0, xmk, .int x2, .long x3, xmk, .int x5]) (st' := [.int x5]) (by decide +kernel) (fun _ => rfl)).trans ?_
  refine (R_pure0 (ins := .iload_n 2) (len := 1) (loc' := [.long x0, xmk, .int x2, .long x3, xmk, .int x5]) (st' := [.int x2, .int x5]) (by decide +kernel) (fun _ => rfl)).trans ?_
  refine (R_icmp_ge (off := 13) (t := 21) (by decide +kernel) (by decide +kernel)).trans (ite_congr rfl (fun c0 => ?_) (fun c0 => ?_))
  · refine (R_pure0 (ins := .lload_n 3) (len := 1) (loc' := [.long x0, xmk, .int x2, .long x3, xmk, .int x5]) (st' := [.long x3]) (by decide +kernel) (fun _ => rfl)).trans ?_
    refine (R_pure0 (ins := .lload_n 0) (len := 1) (loc' := [.long x0, xmk, .int x2, .long x3, xmk, .int x5]) (st' := [.long x0, .long x3]) (by decide +kernel) (fun _ => rfl)).trans ?_
    refine (R_pure0 (ins := .lmul) (len := 1) (loc' := [.long x0, xmk, .int x2, .long x3, xmk, .int x5]) (st' := [.long (x3 * x0)]) (by decide +kernel) (fun _ => rfl)).trans ?_
    refine (R_pure0 (ins := .lstore_n 3) (len := 1) (loc' := [.long x0, xmk, .int x2, .long (x3 * x0), xmk, .int x5]) (st' := []) (by decide +kernel) (fun _ => rfl)).trans ?_
    refine (R_iinc (k := 5) (n := 1) (x := x5) (v := (x5 + 1)) (loc' := [.long x0, xmk, .int x2, .long (x3 * x0), xmk, .int (x5 + 1)]) (by decide +kernel) rfl rfl rfl).trans ?_
    refine (R_goto (off := (-13)) (t := 5) (by decide +kernel) (by decide +kernel)).trans ?_
    rfl
  · refine (R_pure0 (ins := .lload_n 3) (len := 1) (loc' := [.long x0, xmk, .int x2, .long x3, xmk, .int x5]) (st' := [.long x3]) (by decide +kernel) (fun _ => rfl)).trans ?_
    exact R_lreturn (by decide +kernel) (by decide +kernel)
theorem s225 {L : Nat} {mi : Nat → Nat → Int32} {ml : Nat → Nat → Int64} {d : Nat} {Q : Option Value → xM → Prop} {x1 x2 : Int32} : Xm 225 [.ref 68, .int x1, .int x2] (SH L, mi, ml, MR) (d + 1) Q =
    Xm 200 [.ref 68] (SH L, mi, ml, MR) d (fun v μ' => X 225 4 [.ref 68, .int x1, .int x2, xmk, xmk, xmk, xmk, xmk, xmk, xmk] (v.toList ++ []) μ' (d + 1) Q) := by
  rw [Xm_ent (n := 10) (loc := [.ref 68, .int x1, .int x2, xmk, xmk, xmk, xmk, xmk, xmk, xmk]) (by decide +kernel) rfl]
  refine (R_pure0 (ins := .aload_n 0) (len := 1) (loc' := [.ref 68, .int x1, .int x2, xmk, xmk, xmk, xmk, xmk, xmk, xmk]) (st' := [.ref 68]) (by decide +kernel) (fun _ => rfl)).trans ?_
  refine (R_virt (i := 209) (f := 200) (kd := 0) (na := 0) (ml := 3) (ci := 10) (n := 33) (b := 68) (As := []) (rest := []) (by decide +kernel) (by decide +kernel) (by decide) (by decide +kernel) rfl (by decide +kernel) rfl rfl (by decide +kernel) (Nat.le_of_ble_eq_true rfl)).trans ?_
  rfl
theorem s225_4 {L : Nat} {mi : Nat → Nat → Int32} {ml : Nat → Nat → Int64} {d : Nat} {Q : Option Value → xM → Prop} {x1 x2 y : Int32} : X 225 4 [.ref 68, .int x1, .int x2, xmk, xmk, xmk, xmk, xmk, xmk, xmk] [.int y] (SH L, mi, ml, MR) d Q =
    X 225 11 [.ref 68, .int x1, .int x2, .int y, .long 0, xmk, .int 0, xmk, xmk, xmk] [] (SH L, mi, ml, MR) d Q := by
  refine (R_pure0 (ins := .istore_n 3) (len := 1) (loc' := [.ref 68, .int x1, .int x2, .int y, xmk, xmk, xmk, xmk, xmk, xmk]) (st' := []) (by decide +kernel) (fun _ => rfl)).trans ?_
  refine (R_lconst (n := 0) (v := 0) (by decide +kernel) (by decide +kernel)).trans ?_
  refine (R_pure0 (ins := .lstore 4) (len := 2) (loc' := [.ref 68, .int x1, .int x2, .int y, .long 0, xmk, xmk, xmk, xmk, xmk]) (st' := []) (by decide +kernel) (fun _ => rfl)).trans ?_
  refine (R_iconst (n := 0) (v := 0) (by decide +kernel) (by decide +kernel)).trans ?_
  refine (R_pure0 (ins := .istore 6) (len := 2) (loc' := [.ref 68, .int x1, .int x2, .int y, .long 0, xmk, .int 0, xmk, xmk, xmk]) (st' := []) (by decide +kernel) (fun _ => rfl)).trans ?_
  rfl
theorem s225_11 {L : Nat} {mi : Nat → Nat → Int32} {ml : Nat → Nat → Int64} {d : Nat} {Q : Option Value → xM → Prop} {x1 x2 x3 x6 : Int32} {x4 : Int64} : X 225 11 [.ref 68, .int x1, .int x2, .int x3, .long x4, xmk, .int x6, xmk, xmk, xmk] [] (SH L, mi, ml, MR) (d + 1) Q =
    if (x6 < (1 <<< ((mi 68 4) &&& 31))) then (if ((x6 &&& (x3 ^^^ (-1))) = 0) then (X 225 37 [.ref 68, .int x1, .int x2, .int x3, .long x4, xmk, .int x6, .int 0, .int 0, xmk] [] (SH L, mi, ml, MR) (d + 1) Q) else (X 225 11 [.ref 68, .int x1, .int x2, .int x3, .long x4, xmk, .int (x6 + 1), xmk, xmk, xmk] [] (SH L, mi, ml, MR) (d + 1) Q)) else (Xm 151 [.int x3] (SH L, mi, ml, MR) d (fun v μ' => X 225 164 [.ref 68, .int x1, .int x2, .int x3, .long x4, xmk, .int x6, xmk, xmk, xmk] (v.toList ++ [.long 12, .long x4, .ref 68]) μ' (d + 1) Q)) := by
  refine (R_pure0 (ins := .iload 6) (len := 2) (loc' := [.ref 68, .int x1, .int x2, .int x3, .long x4, xmk, .int x6, xmk, xmk, xmk]) (st' := [.int x6]) (by decide +kernel) (fun _ => rfl)).trans ?_
  refine (R_iconst (n := 1) (v := 1) (by decide +kernel) (by decide +kernel)).trans ?_
  refine (R_pure0 (ins := .aload_n 0) (len := 1) (loc' := [.ref 68, .int x1, .int x2, .int x3, .long x4, xmk, .int x6, xmk, xmk, xmk]) (st' := [.ref 68, .int 1, .int x6]) (by decide +kernel) (fun _ => rfl)).trans ?_
  refine (R_gi (i := 131) (ci := 10) (k := 4) (n := 33) (by decide +kernel) (by decide +kernel) (by decide) rfl).trans ?_
  refine (R_pure0 (ins := .ishl) (len := 1) (loc' := [.ref 68, .int x1, .int x2, .int x3, .long x4, xmk, .int x6, xmk, xmk, xmk]) (st' := [.int (1 <<< ((mi 68 4) &&& 31)), .int x6]) (by decide +kernel) (fun _ => rfl)).trans ?_
  refine (R_icmp_ge (off := 135) (t := 154) (by decide +kernel) (by decide +kernel)).trans (ite_congr rfl (fun c0 => ?_) (fun c0 => ?_))
  · refine (R_pure0 (ins := .iload 6) (len := 2) (loc' := [.ref 68, .int x1, .int x2, .int x3, .long x4, xmk, .int x6, xmk, xmk, xmk]) (st' := [.int x6]) (by decide +kernel) (fun _ => rfl)).trans ?_
    refine (R_pure0 (ins := .iload_n 3) (len := 1) (loc' := [.ref 68, .int x1, .int x2, .int x3, .long x4, xmk, .int x6, xmk, xmk, xmk]) (st' := [.int x3, .int x6]) (by decide +kernel) (fun _ => rfl)).trans ?_
    refine (R_iconst (n := (-1)) (v := (-1)) (by decide +kernel) (by decide +kernel)).trans ?_
    refine (R_pure0 (ins := .ixor) (len := 1) (loc' := [.ref 68, .int x1, .int x2, .int x3, .long x4, xmk, .int x6, xmk, xmk, xmk]) (st' := [.int (x3 ^^^ (-1)), .int x6]) (by decide +kernel) (fun _ => rfl)).trans ?_
    refine (R_pure0 (ins := .iand) (len := 1) (loc' := [.ref 68, .int x1, .int x2, .int x3, .long x4, xmk, .int x6, xmk, xmk, xmk]) (st' := [.int (x6 &&& (x3 ^^^ (-1)))]) (by decide +kernel) (fun _ => rfl)).trans ?_
    refine (R_if_ne (off := 120) (t := 148) (by decide +kernel) (by decide +kernel)).trans (ite_congr rfl (fun c1 => ?_) (fun c1 => ?_))
    · refine (R_iconst (n := 0) (v := 0) (by decide +kernel) (by decide +kernel)).trans ?_
      refine (R_pure0 (ins := .istore 7) (len := 2) (loc' := [.ref 68, .int x1, .int x2, .int x3, .long x4, xmk, .int x6, .int 0, xmk, xmk]) (st' := []) (by decide +kernel) (fun _ => rfl)).trans ?_
      refine (R_iconst (n := 0) (v := 0) (by decide +kernel) (by decide +kernel)).trans ?_
      refine (R_pure0 (ins := .istore 8) (len := 2) (loc' := [.ref 68, .int x1, .int x2, .int x3, .long x4, xmk, .int x6, .int 0, .int 0, xmk]) (st' := []) (by decide +kernel) (fun _ => rfl)).trans ?_
      rfl
    · refine (R_iinc (k := 6) (n := 1) (x := x6) (v := (x6 + 1)) (loc' := [.ref 68, .int x1, .int x2, .int x3, .long x4, xmk, .int (x6 + 1), xmk, xmk, xmk]) (by decide +kernel) rfl rfl rfl).trans ?_
      refine (R_goto (off := (-140)) (t := 11) (by decide +kernel) (by decide +kernel)).trans ?_
      rfl
  · refine (R_pure0 (ins := .aload_n 0) (len := 1) (loc' := [.ref 68, .int x1, .int x2, .int x3, .long x4, xmk, .int x6, xmk, xmk, xmk]) (st' := [.ref 68]) (by decide +kernel) (fun _ => rfl)).trans ?_
    refine (R_pure0 (ins := .lload 4) (len := 2) (loc' := [.ref 68, .int x1, .int x2, .int x3, .long x4, xmk, .int x6, xmk, xmk, xmk]) (st' := [.long x4, .ref 68]) (by decide +kernel) (fun _ => rfl)).trans ?_
    refine (R_ldc2 (i := 274) (v := 12) (by decide +kernel) (by decide +kernel)).trans ?_
    refine (R_pure0 (ins := .iload_n 3) (len := 1) (loc' := [.ref 68, .int x1, .int x2, .int x3, .long x4, xmk, .int x6, xmk, xmk, xmk]) (st' := [.int x3, .long 12, .long x4, .ref 68]) (by decide +kernel) (fun _ => rfl)).trans ?_
    refine (R_static (i := 204) (f := 151) (kd := 2) (na := 1) (ml := 3) (As := [.int x3]) (rest := [.long 12, .long x4, .ref 68]) (by decide +kernel) (by decide +kernel) (by decide) (by decide +kernel) rfl rfl (by decide +kernel) (Nat.le_of_ble_eq_true rfl)).trans ?_
    rfl
theorem s225_37 {L : Nat} {mi : Nat → Nat → Int32} {ml : Nat → Nat → Int64} {d : Nat} {Q : Option Value → xM → Prop} {x1 x2 x3 x6 x7 x8 : Int32} {x4 : Int64} : X 225 37 [.ref 68, .int x1, .int x2, .int x3, .long x4, xmk, .int x6, .int x7, .int x8, xmk] [] (SH L, mi, ml, MR) (d + 1) Q =
    if (x8 < (mi 68 4)) then (Xm 150 [.int x6, .int x8] (SH L, mi, ml, MR) d (fun v μ' => X 225 53 [.ref 68, .int x1, .int x2, .int x3, .long x4, xmk, .int x6, .int x7, .int x8, xmk] (v.toList ++ []) μ' (d + 1) Q)) else (Xm 151 [.int x6] (SH L, mi, ml, MR) d (fun v μ' => X 225 96 [.ref 68, .int x1, .int x2, .int x3, .long x4, xmk, .int x6, .int x7, .int x8, xmk] (v.toList ++ [.long (12 - x2).toInt64]) μ' (d + 1) Q)) := by
  refine (R_pure0 (ins := .iload 8) (len := 2) (loc' := [.ref 68, .int x1, .int x2, .int x3, .long x4, xmk, .int x6, .int x7, .int x8, xmk]) (st' := [.int x8]) (by decide +kernel) (fun _ => rfl)).trans ?_
  refine (R_pure0 (ins := .aload_n 0) (len := 1) (loc' := [.ref 68, .int x1, .int x2, .int x3, .long x4, xmk, .int x6, .int x7, .int x8, xmk]) (st' := [.ref 68, .int x8]) (by decide +kernel) (fun _ => rfl)).trans ?_
  refine (R_gi (i := 131) (ci := 10) (k := 4) (n := 33) (by decide +kernel) (by decide +kernel) (by decide) rfl).trans ?_
  refine (R_icmp_ge (off := 43) (t := 86) (by decide +kernel) (by decide +kernel)).trans (ite_congr rfl (fun c0 => ?_) (fun c0 => ?_))
  · refine (R_pure0 (ins := .iload 6) (len := 2) (loc' := [.ref 68, .int x1, .int x2, .int x3, .long x4, xmk, .int x6, .int x7, .int x8, xmk]) (st' := [.int x6]) (by decide +kernel) (fun _ => rfl)).trans ?_
    refine (R_pure0 (ins := .iload 8) (len := 2) (loc' := [.ref 68, .int x1, .int x2, .int x3, .long x4, xmk, .int x6, .int x7, .int x8, xmk]) (st' := [.int x8, .int x6]) (by decide +kernel) (fun _ => rfl)).trans ?_
    refine (R_static (i := 156) (f := 150) (kd := 2) (na := 2) (ml := 2) (As := [.int x6, .int x8]) (rest := []) (by decide +kernel) (by decide +kernel) (by decide) (by decide +kernel) rfl rfl (by decide +kernel) (Nat.le_of_ble_eq_true rfl)).trans ?_
    rfl
  · refine (R_bipush (n := 12) (v := 12) (by decide +kernel) (by decide +kernel)).trans ?_
    refine (R_pure0 (ins := .iload_n 2) (len := 1) (loc' := [.ref 68, .int x1, .int x2, .int x3, .long x4, xmk, .int x6, .int x7, .int x8, xmk]) (st' := [.int x2, .int 12]) (by decide +kernel) (fun _ => rfl)).trans ?_
    refine (R_pure0 (ins := .isub) (len := 1) (loc' := [.ref 68, .int x1, .int x2, .int x3, .long x4, xmk, .int x6, .int x7, .int x8, xmk]) (st' := [.int (12 - x2)]) (by decide +kernel) (fun _ => rfl)).trans ?_
    refine (R_pure0 (ins := .i2l) (len := 1) (loc' := [.ref 68, .int x1, .int x2, .int x3, .long x4, xmk, .int x6, .int x7, .int x8, xmk]) (st' := [.long (12 - x2).toInt64]) (by decide +kernel) (fun _ => rfl)).trans ?_
    refine (R_pure0 (ins := .iload 6) (len := 2) (loc' := [.ref 68, .int x1, .int x2, .int x3, .long x4, xmk, .int x6, .int x7, .int x8, xmk]) (st' := [.int x6, .long (12 - x2).toInt64]) (by decide +kernel) (fun _ => rfl)).trans ?_
    refine (R_static (i := 204) (f := 151) (kd := 2) (na := 1) (ml := 3) (As := [.int x6]) (rest := [.long (12 - x2).toInt64]) (by decide +kernel) (by decide +kernel) (by decide) (by decide +kernel) rfl rfl (by decide +kernel) (Nat.le_of_ble_eq_true rfl)).trans ?_
    rfl
theorem s225_164 {L : Nat} {mi : Nat → Nat → Int32} {ml : Nat → Nat → Int64} {d : Nat} {Q : Option Value → xM → Prop} {x1 x2 x3 x6 y : Int32} {x4 z0 z1 : Int64} : X 225 164 [.ref 68, .int x1, .int x2, .int x3, .long x4, xmk, .int x6, xmk, xmk, xmk] [.int y, .long z0, .long z1, .ref 68] (SH L, mi, ml, MR) (d + 1) Q =
    Xm 224 [.long z0, .int y] (SH L, mi, ml, MR) d (fun v μ' => X 225 167 [.ref 68, .int x1, .int x2, .int x3, .long x4, xmk, .int x6, xmk, xmk, xmk] (v.toList ++ [.long z1, .ref 68]) μ' (d + 1) Q) := by
  refine (R_static (i := 270) (f := 224) (kd := 2) (na := 2) (ml := 6) (As := [.long z0, .int y]) (rest := [.long z1, .ref 68]) (by decide +kernel) (by decide +kernel) (by decide) (by decide +kernel) rfl rfl (by decide +kernel) (Nat.le_of_ble_eq_true rfl)).trans ?_
  rfl
theorem s225_53 {L : Nat} {mi : Nat → Nat → Int32} {ml : Nat → Nat → Int64} {d : Nat} {Q : Option Value → xM → Prop} {x1 x2 x3 x6 x7 x8 y : Int32} {x4 : Int64} : X 225 53 [.ref 68, .int x1, .int x2, .int x3, .long x4, xmk, .int x6, .int x7, .int x8, xmk] [.int y] (SH L, mi, ml, MR) (d + 1) Q =
    if (y = 0) then (X 225 37 [.ref 68, .int x1, .int x2, .int x3, .long x4, xmk, .int x6, .int x7, .int (x8 + 1), xmk] [] (SH L, mi, ml, MR) (d + 1) Q) else (Xm 201 [.ref 68, .int x8] (SH L, mi, ml, MR) d (fun v μ' => X 225 62 [.ref 68, .int x1, .int x2, .int x3, .long x4, xmk, .int x6, .int x7, .int x8, xmk] (v.toList ++ []) μ' (d + 1) Q)) := by
  refine (R_if_eq (off := 23) (t := 76) (by decide +kernel) (by decide +kernel)).trans (ite_congr rfl (fun c0 => ?_) (fun c0 => ?_))
  · refine (R_pure0 (ins := .iload 7) (len := 2) (loc' := [.ref 68, .int x1, .int x2, .int x3, .long x4, xmk, .int x6, .int x7, .int x8, xmk]) (st' := [.int x7]) (by decide +kernel) (fun _ => rfl)).trans ?_
    refine (R_pure0 (ins := .istore 7) (len := 2) (loc' := [.ref 68, .int x1, .int x2, .int x3, .long x4, xmk, .int x6, .int x7, .int x8, xmk]) (st' := []) (by decide +kernel) (fun _ => rfl)).trans ?_
    refine (R_iinc (k := 8) (n := 1) (x := x8) (v := (x8 + 1)) (loc' := [.ref 68, .int x1, .int x2, .int x3, .long x4, xmk, .int x6, .int x7, .int (x8 + 1), xmk]) (by decide +kernel) rfl rfl rfl).trans ?_
    refine (R_goto (off := (-46)) (t := 37) (by decide +kernel) (by decide +kernel)).trans ?_
    rfl
  · refine (R_pure0 (ins := .aload_n 0) (len := 1) (loc' := [.ref 68, .int x1, .int x2, .int x3, .long x4, xmk, .int x6, .int x7, .int x8, xmk]) (st' := [.ref 68]) (by decide +kernel) (fun _ => rfl)).trans ?_
    refine (R_pure0 (ins := .iload 8) (len := 2) (loc' := [.ref 68, .int x1, .int x2, .int x3, .long x4, xmk, .int x6, .int x7, .int x8, xmk]) (st' := [.int x8, .ref 68]) (by decide +kernel) (fun _ => rfl)).trans ?_
    refine (R_virt (i := 212) (f := 201) (kd := 0) (na := 1) (ml := 2) (ci := 10) (n := 33) (b := 68) (As := [.int x8]) (rest := []) (by decide +kernel) (by decide +kernel) (by decide) (by decide +kernel) rfl (by decide +kernel) rfl rfl (by decide +kernel) (Nat.le_of_ble_eq_true rfl)).trans ?_
    rfl
theorem s225_96 {L : Nat} {mi : Nat → Nat → Int32} {ml : Nat → Nat → Int64} {d : Nat} {Q : Option Value → xM → Prop} {x1 x2 x3 x6 x7 x8 y : Int32} {x4 z0 : Int64} : X 225 96 [.ref 68, .int x1, .int x2, .int x3, .long x4, xmk, .int x6, .int x7, .int x8, xmk] [.int y, .long z0] (SH L, mi, ml, MR) (d + 1) Q =
    Xm 224 [.long z0, .int y] (SH L, mi, ml, MR) d (fun v μ' => X 225 99 [.ref 68, .int x1, .int x2, .int x3, .long x4, xmk, .int x6, .int x7, .int x8, xmk] (v.toList ++ []) μ' (d + 1) Q) := by
  refine (R_static (i := 270) (f := 224) (kd := 2) (na := 2) (ml := 6) (As := [.long z0, .int y]) (rest := []) (by decide +kernel) (by decide +kernel) (by decide) (by decide +kernel) rfl rfl (by decide +kernel) (Nat.le_of_ble_eq_true rfl)).trans ?_
  rfl
theorem s225_167 {L : Nat} {mi : Nat → Nat → Int32} {ml : Nat → Nat → Int64} {d : Nat} {Q : Option Value → xM → Prop} {x1 x2 x3 x6 : Int32} {x4 y z0 : Int64} : X 225 167 [.ref 68, .int x1, .int x2, .int x3, .long x4, xmk, .int x6, xmk, xmk, xmk] [.long y, .long z0, .ref 68] (SH L, mi, ml, MR) (d + 1) Q =
    Xm 211 [.ref 68, .long z0, .long y] (SH L, mi, ml, MR) d (fun v μ' => X 225 170 [.ref 68, .int x1, .int x2, .int x3, .long x4, xmk, .int x6, xmk, xmk, xmk] (v.toList ++ []) μ' (d + 1) Q) := by
  refine (R_virt (i := 252) (f := 211) (kd := 0) (na := 2) (ml := 11) (ci := 10) (n := 33) (b := 68) (As := [.long z0, .long y]) (rest := []) (by decide +kernel) (by decide +kernel) (by decide) (by decide +kernel) rfl (by decide +kernel) rfl rfl (by decide +kernel) (Nat.le_of_ble_eq_true rfl)).trans ?_
  rfl
theorem s225_62 {L : Nat} {mi : Nat → Nat → Int32} {ml : Nat → Nat → Int64} {d : Nat} {Q : Option Value → xM → Prop} {x1 x2 x3 x6 x7 x8 y : Int32} {x4 : Int64} : X 225 62 [.ref 68, .int x1, .int x2, .int x3, .long x4, xmk, .int x6, .int x7, .int x8, xmk] [.int y] (SH L, mi, ml, MR) (d + 1) Q =
    if (x7 < y) then (Xm 201 [.ref 68, .int x8] (SH L, mi, ml, MR) d (fun v μ' => X 225 73 [.ref 68, .int x1, .int x2, .int x3, .long x4, xmk, .int x6, .int x7, .int x8, xmk] (v.toList ++ []) μ' (d + 1) Q)) else (X 225 37 [.ref 68, .int x1, .int x2, .int x3, .long x4, xmk, .int x6, .int x7, .int (x8 + 1), xmk] [] (SH L, mi, ml, MR) (d + 1) Q) := by
  refine (R_pure0 (ins := .iload 7) (len := 2) (loc' := [.ref 68, .int x1, .int x2, .int x3, .long x4, xmk, .int x6, .int x7, .int x8, xmk]) (st' := [.int x7, .int y]) (by decide +kernel) (fun _ => rfl)).trans ?_
  refine (R_icmp_le (off := 12) (t := 76) (by decide +kernel) (by decide +kernel)).trans (ite_congr rfl (fun c0 => ?_) (fun c0 => ?_))
  · refine (R_pure0 (ins := .aload_n 0) (len := 1) (loc' := [.ref 68, .int x1, .int x2, .int x3, .long x4, xmk, .int x6, .int x7, .int x8, xmk]) (st' := [.ref 68]) (by decide +kernel) (fun _ => rfl)).trans ?_
    refine (R_pure0 (ins := .iload 8) (len := 2) (loc' := [.ref 68, .int x1, .int x2, .int x3, .long x4, xmk, .int x6, .int x7, .int x8, xmk]) (st' := [.int x8, .ref 68]) (by decide +kernel) (fun _ => rfl)).trans ?_
    refine (R_virt (i := 212) (f := 201) (kd := 0) (na := 1) (ml := 2) (ci := 10) (n := 33) (b := 68) (As := [.int x8]) (rest := []) (by decide +kernel) (by decide +kernel) (by decide) (by decide +kernel) rfl (by decide +kernel) rfl rfl (by decide +kernel) (Nat.le_of_ble_eq_true rfl)).trans ?_
    rfl
  · refine (R_pure0 (ins := .iload 7) (len := 2) (loc' := [.ref 68, .int x1, .int x2, .int x3, .long x4, xmk, .int x6, .int x7, .int x8, xmk]) (st' := [.int x7]) (by decide +kernel) (fun _ => rfl)).trans ?_
    refine (R_pure0 (ins := .istore 7) (len := 2) (loc' := [.ref 68, .int x1, .int x2, .int x3, .long x4, xmk, .int x6, .int x7, .int x8, xmk]) (st' := []) (by decide +kernel) (fun _ => rfl)).trans ?_
    refine (R_iinc (k := 8) (n := 1) (x := x8) (v := (x8 + 1)) (loc' := [.ref 68, .int x1, .int x2, .int x3, .long x4, xmk, .int x6, .int x7, .int (x8 + 1), xmk]) (by decide +kernel) rfl rfl rfl).trans ?_
    refine (R_goto (off := (-46)) (t := 37) (by decide +kernel) (by decide +kernel)).trans ?_
    rfl
theorem s225_99 {L : Nat} {mi : Nat → Nat → Int32} {ml : Nat → Nat → Int64} {d : Nat} {Q : Option Value → xM → Prop} {x1 x2 x3 x6 x7 x8 : Int32} {x4 y : Int64} : X 225 99 [.ref 68, .int x1, .int x2, .int x3, .long x4, xmk, .int x6, .int x7, .int x8, xmk] [.long y] (SH L, mi, ml, MR) (d + 1) Q =
    Xm 151 [.int (x3 &&& (x6 ^^^ (-1)))] (SH L, mi, ml, MR) d (fun v μ' => X 225 110 [.ref 68, .int x1, .int x2, .int x3, .long x4, xmk, .int x6, .int x7, .int x8, xmk] (v.toList ++ [.long x2.toInt64, .long y]) μ' (d + 1) Q) := by
  refine (R_pure0 (ins := .iload_n 2) (len := 1) (loc' := [.ref 68, .int x1, .int x2, .int x3, .long x4, xmk, .int x6, .int x7, .int x8, xmk]) (st' := [.int x2, .long y]) (by decide +kernel) (fun _ => rfl)).trans ?_
  refine (R_pure0 (ins := .i2l) (len := 1) (loc' := [.ref 68, .int x1, .int x2, .int x3, .long x4, xmk, .int x6, .int x7, .int x8, xmk]) (st' := [.long x2.toInt64, .long y]) (by decide +kernel) (fun _ => rfl)).trans ?_
  refine (R_pure0 (ins := .iload_n 3) (len := 1) (loc' := [.ref 68, .int x1, .int x2, .int x3, .long x4, xmk, .int x6, .int x7, .int x8, xmk]) (st' := [.int x3, .long x2.toInt64, .long y]) (by decide +kernel) (fun _ => rfl)).trans ?_
  refine (R_pure0 (ins := .iload 6) (len := 2) (loc' := [.ref 68, .int x1, .int x2, .int x3, .long x4, xmk, .int x6, .int x7, .int x8, xmk]) (st' := [.int x6, .int x3, .long x2.toInt64, .long y]) (by decide +kernel) (fun _ => rfl)).trans ?_
  refine (R_iconst (n := (-1)) (v := (-1)) (by decide +kernel) (by decide +kernel)).trans ?_
  refine (R_pure0 (ins := .ixor) (len := 1) (loc' := [.ref 68, .int x1, .int x2, .int x3, .long x4, xmk, .int x6, .int x7, .int x8, xmk]) (st' := [.int (x6 ^^^ (-1)), .int x3, .long x2.toInt64, .long y]) (by decide +kernel) (fun _ => rfl)).trans ?_
  refine (R_pure0 (ins := .iand) (len := 1) (loc' := [.ref 68, .int x1, .int x2, .int x3, .long x4, xmk, .int x6, .int x7, .int x8, xmk]) (st' := [.int (x3 &&& (x6 ^^^ (-1))), .long x2.toInt64, .long y]) (by decide +kernel) (fun _ => rfl)).trans ?_
  refine (R_static (i := 204) (f := 151) (kd := 2) (na := 1) (ml := 3) (As := [.int (x3 &&& (x6 ^^^ (-1)))]) (rest := [.long x2.toInt64, .long y]) (by decide +kernel) (by decide +kernel) (by decide) (by decide +kernel) rfl rfl (by decide +kernel) (Nat.le_of_ble_eq_true rfl)).trans ?_
  rfl
theorem s225_170 {L : Nat} {mi : Nat → Nat → Int32} {ml : Nat → Nat → Int64} {d : Nat} {Q : Option Value → xM → Prop} {x1 x2 x3 x6 y : Int32} {x4 : Int64} : X 225 170 [.ref 68, .int x1, .int x2, .int x3, .long x4, xmk, .int x6, xmk, xmk, xmk] [.int y] (SH L, mi, ml, MR) d Q =
    Q (some (.int y)) (SH L, mi, ml, MR) := by
  exact R_ireturn (by decide +kernel) (by decide +kernel)
theorem s225_73 {L : Nat} {mi : Nat → Nat → Int32} {ml : Nat → Nat → Int64} {d : Nat} {Q : Option Value → xM → Prop} {x1 x2 x3 x6 x7 x8 y : Int32} {x4 : Int64} : X 225 73 [.ref 68, .int x1, .int x2, .int x3, .long x4, xmk, .int x6, .int x7, .int x8, xmk] [.int y] (SH L, mi, ml, MR) d Q =
    X 225 37 [.ref 68, .int x1, .int x2, .int x3, .long x4, xmk, .int x6, .int y, .int (x8 + 1), xmk] [] (SH L, mi, ml, MR) d Q := by
  refine (R_goto (off := 5) (t := 78) (by decide +kernel) (by decide +kernel)).trans ?_
  refine (R_pure0 (ins := .istore 7) (len := 2) (loc' := [.ref 68, .int x1, .int x2, .int x3, .long x4, xmk, .int x6, .int y, .int x8, xmk]) (st' := []) (by decide +kernel) (fun _ => rfl)).trans ?_
  refine (R_iinc (k := 8) (n := 1) (x := x8) (v := (x8 + 1)) (loc' := [.ref 68, .int x1, .int x2, .int x3, .long x4, xmk, .int x6, .int y, .int (x8 + 1), xmk]) (by decide +kernel) rfl rfl rfl).trans ?_
  refine (R_goto (off := (-46)) (t := 37) (by decide +kernel) (by decide +kernel)).trans ?_
  rfl
theorem s225_110 {L : Nat} {mi : Nat → Nat → Int32} {ml : Nat → Nat → Int64} {d : Nat} {Q : Option Value → xM → Prop} {x1 x2 x3 x6 x7 x8 y : Int32} {x4 z0 z1 : Int64} : X 225 110 [.ref 68, .int x1, .int x2, .int x3, .long x4, xmk, .int x6, .int x7, .int x8, xmk] [.int y, .long z0, .long z1] (SH L, mi, ml, MR) (d + 1) Q =
    Xm 224 [.long z0, .int y] (SH L, mi, ml, MR) d (fun v μ' => X 225 113 [.ref 68, .int x1, .int x2, .int x3, .long x4, xmk, .int x6, .int x7, .int x8, xmk] (v.toList ++ [.long z1]) μ' (d + 1) Q) := by
  refine (R_static (i := 270) (f := 224) (kd := 2) (na := 2) (ml := 6) (As := [.long z0, .int y]) (rest := [.long z1]) (by decide +kernel) (by decide +kernel) (by decide) (by decide +kernel) rfl rfl (by decide +kernel) (Nat.le_of_ble_eq_true rfl)).trans ?_
  rfl
theorem s225_113 {L : Nat} {mi : Nat → Nat → Int32} {ml : Nat → Nat → Int64} {d : Nat} {Q : Option Value → xM → Prop} {x1 x2 x3 x6 x7 x8 : Int32} {x4 y z0 : Int64} : X 225 113 [.ref 68, .int x1, .int x2, .int x3, .long x4, xmk, .int x6, .int x7, .int x8, xmk] [.long y, .long z0] (SH L, mi, ml, MR) (d + 1) Q =
    if (x1 < 0) then (X 225 11 [.ref 68, .int x1, .int x2, .int x3, .long (x4 + ((z0 * y) * x7.toInt64)), xmk, .int (x6 + 1), .int x7, .long (z0 * y), xmk] [] (SH L, mi, ml, MR) (d + 1) Q) else (Xm 151 [.int x6] (SH L, mi, ml, MR) d (fun v μ' => X 225 134 [.ref 68, .int x1, .int x2, .int x3, .long x4, xmk, .int x6, .int x7, .long (z0 * y), xmk] (v.toList ++ [.long (z0 * y), .long x4]) μ' (d + 1) Q)) := by
  refine (R_pure0 (ins := .lmul) (len := 1) (loc' := [.ref 68, .int x1, .int x2, .int x3, .long x4, xmk, .int x6, .int x7, .int x8, xmk]) (st' := [.long (z0 * y)]) (by decide +kernel) (fun _ => rfl)).trans ?_
  refine (R_pure0 (ins := .lstore 8) (len := 2) (loc' := [.ref 68, .int x1, .int x2, .int x3, .long x4, xmk, .int x6, .int x7, .long (z0 * y), xmk]) (st' := []) (by decide +kernel) (fun _ => rfl)).trans ?_
  refine (R_pure0 (ins := .lload 4) (len := 2) (loc' := [.ref 68, .int x1, .int x2, .int x3, .long x4, xmk, .int x6, .int x7, .long (z0 * y), xmk]) (st' := [.long x4]) (by decide +kernel) (fun _ => rfl)).trans ?_
  refine (R_pure0 (ins := .lload 8) (len := 2) (loc' := [.ref 68, .int x1, .int x2, .int x3, .long x4, xmk, .int x6, .int x7, .long (z0 * y), xmk]) (st' := [.long (z0 * y), .long x4]) (by decide +kernel) (fun _ => rfl)).trans ?_
  refine (R_pure0 (ins := .iload_n 1) (len := 1) (loc' := [.ref 68, .int x1, .int x2, .int x3, .long x4, xmk, .int x6, .int x7, .long (z0 * y), xmk]) (st' := [.int x1, .long (z0 * y), .long x4]) (by decide +kernel) (fun _ => rfl)).trans ?_
  refine (R_if_ge (off := 8) (t := 129) (by decide +kernel) (by decide +kernel)).trans (ite_congr rfl (fun c0 => ?_) (fun c0 => ?_))
  · refine (R_pure0 (ins := .iload 7) (len := 2) (loc' := [.ref 68, .int x1, .int x2, .int x3, .long x4, xmk, .int x6, .int x7, .long (z0 * y), xmk]) (st' := [.int x7, .long (z0 * y), .long x4]) (by decide +kernel) (fun _ => rfl)).trans ?_
    refine (R_goto (off := 17) (t := 143) (by decide +kernel) (by decide +kernel)).trans ?_
    refine (R_pure0 (ins := .i2l) (len := 1) (loc' := [.ref 68, .int x1, .int x2, .int x3, .long x4, xmk, .int x6, .int x7, .long (z0 * y), xmk]) (st' := [.long x7.toInt64, .long (z0 * y), .long x4]) (by decide +kernel) (fun _ => rfl)).trans ?_
    refine (R_pure0 (ins := .lmul) (len := 1) (loc' := [.ref 68, .int x1, .int x2, .int x3, .long x4, xmk, .int x6, .int x7, .long (z0 * y), xmk]) (st' := [.long ((z0 * y) * x7.toInt64), .long x4]) (by decide +kernel) (fun _ => rfl)).trans ?_
    refine (R_pure0 (ins := .ladd) (len := 1) (loc' := [.ref 68, .int x1, .int x2, .int x3, .long x4, xmk, .int x6, .int x7, .long (z0 * y), xmk]) (st' := [.long (x4 + ((z0 * y) * x7.toInt64))]) (by decide +kernel) (fun _ => rfl)).trans ?_
    refine (R_pure0 (ins := .lstore 4) (len := 2) (loc' := [.ref 68, .int x1, .int x2, .int x3, .long (x4 + ((z0 * y) * x7.toInt64)), xmk, .int x6, .int x7, .long (z0 * y), xmk]) (st' := []) (by decide +kernel) (fun _ => rfl)).trans ?_
    refine (R_iinc (k := 6) (n := 1) (x := x6) (v := (x6 + 1)) (loc' := [.ref 68, .int x1, .int x2, .int x3, .long (x4 + ((z0 * y) * x7.toInt64)), xmk, .int (x6 + 1), .int x7, .long (z0 * y), xmk]) (by decide +kernel) rfl rfl rfl).trans ?_
    refine (R_goto (off := (-140)) (t := 11) (by decide +kernel) (by decide +kernel)).trans ?_
    rfl
  · refine (R_pure0 (ins := .iload 6) (len := 2) (loc' := [.ref 68, .int x1, .int x2, .int x3, .long x4, xmk, .int x6, .int x7, .long (z0 * y), xmk]) (st' := [.int x6, .long (z0 * y), .long x4]) (by decide +kernel) (fun _ => rfl)).trans ?_
    refine (R_static (i := 204) (f := 151) (kd := 2) (na := 1) (ml := 3) (As := [.int x6]) (rest := [.long (z0 * y), .long x4]) (by decide +kernel) (by decide +kernel) (by decide) (by decide +kernel) rfl rfl (by decide +kernel) (Nat.le_of_ble_eq_true rfl)).trans ?_
    rfl
theorem s225_11v2 {L : Nat} {mi : Nat → Nat → Int32} {ml : Nat → Nat → Int64} {d : Nat} {Q : Option Value → xM → Prop} {x1 x2 x3 x6 x7 : Int32} {x4 x8 : Int64} : X 225 11 [.ref 68, .int x1, .int x2, .int x3, .long x4, xmk, .int x6, .int x7, .long x8, xmk] [] (SH L, mi, ml, MR) (d + 1) Q =
    if (x6 < (1 <<< ((mi 68 4) &&& 31))) then (if ((x6 &&& (x3 ^^^ (-1))) = 0) then (X 225 37 [.ref 68, .int x1, .int x2, .int x3, .long x4, xmk, .int x6, .int 0, .int 0, xmk] [] (SH L, mi, ml, MR) (d + 1) Q) else (X 225 11 [.ref 68, .int x1, .int x2, .int x3, .long x4, xmk, .int (x6 + 1), .int x7, .long x8, xmk] [] (SH L, mi, ml, MR) (d + 1) Q)) else (Xm 151 [.int x3] (SH L, mi, ml, MR) d (fun v μ' => X 225 164 [.ref 68, .int x1, .int x2, .int x3, .long x4, xmk, .int x6, .int x7, .long x8, xmk] (v.toList ++ [.long 12, .long x4, .ref 68]) μ' (d + 1) Q)) := by
  refine (R_pure0 (ins := .iload 6) (len := 2) (loc' := [.ref 68, .int x1, .int x2, .int x3, .long x4, xmk, .int x6, .int x7, .long x8, xmk]) (st' := [.int x6]) (by decide +kernel) (fun _ => rfl)).trans ?_
  refine (R_iconst (n := 1) (v := 1) (by decide +kernel) (by decide +kernel)).trans ?_
  refine (R_pure0 (ins := .aload_n 0) (len := 1) (loc' := [.ref 68, .int x1, .int x2, .int x3, .long x4, xmk, .int x6, .int x7, .long x8, xmk]) (st' := [.ref 68, .int 1, .int x6]) (by decide +kernel) (fun _ => rfl)).trans ?_
  refine (R_gi (i := 131) (ci := 10) (k := 4) (n := 33) (by decide +kernel) (by decide +kernel) (by decide) rfl).trans ?_
  refine (R_pure0 (ins := .ishl) (len := 1) (loc' := [.ref 68, .int x1, .int x2, .int x3, .long x4, xmk, .int x6, .int x7, .long x8, xmk]) (st' := [.int (1 <<< ((mi 68 4) &&& 31)), .int x6]) (by decide +kernel) (fun _ => rfl)).trans ?_
  refine (R_icmp_ge (off := 135) (t := 154) (by decide +kernel) (by decide +kernel)).trans (ite_congr rfl (fun c0 => ?_) (fun c0 => ?_))
  · refine (R_pure0 (ins := .iload 6) (len := 2) (loc' := [.ref 68, .int x1, .int x2, .int x3, .long x4, xmk, .int x6, .int x7, .long x8, xmk]) (st' := [.int x6]) (by decide +kernel) (fun _ => rfl)).trans ?_
    refine (R_pure0 (ins := .iload_n 3) (len := 1) (loc' := [.ref 68, .int x1, .int x2, .int x3, .long x4, xmk, .int x6, .int x7, .long x8, xmk]) (st' := [.int x3, .int x6]) (by decide +kernel) (fun _ => rfl)).trans ?_
    refine (R_iconst (n := (-1)) (v := (-1)) (by decide +kernel) (by decide +kernel)).trans ?_
    refine (R_pure0 (ins := .ixor) (len := 1) (loc' := [.ref 68, .int x1, .int x2, .int x3, .long x4, xmk, .int x6, .int x7, .long x8, xmk]) (st' := [.int (x3 ^^^ (-1)), .int x6]) (by decide +kernel) (fun _ => rfl)).trans ?_
    refine (R_pure0 (ins := .iand) (len := 1) (loc' := [.ref 68, .int x1, .int x2, .int x3, .long x4, xmk, .int x6, .int x7, .long x8, xmk]) (st' := [.int (x6 &&& (x3 ^^^ (-1)))]) (by decide +kernel) (fun _ => rfl)).trans ?_
    refine (R_if_ne (off := 120) (t := 148) (by decide +kernel) (by decide +kernel)).trans (ite_congr rfl (fun c1 => ?_) (fun c1 => ?_))
    · refine (R_iconst (n := 0) (v := 0) (by decide +kernel) (by decide +kernel)).trans ?_
      refine (R_pure0 (ins := .istore 7) (len := 2) (loc' := [.ref 68, .int x1, .int x2, .int x3, .long x4, xmk, .int x6, .int 0, .long x8, xmk]) (st' := []) (by decide +kernel) (fun _ => rfl)).trans ?_
      refine (R_iconst (n := 0) (v := 0) (by decide +kernel) (by decide +kernel)).trans ?_
      refine (R_pure0 (ins := .istore 8) (len := 2) (loc' := [.ref 68, .int x1, .int x2, .int x3, .long x4, xmk, .int x6, .int 0, .int 0, xmk]) (st' := []) (by decide +kernel) (fun _ => rfl)).trans ?_
      rfl
    · refine (R_iinc (k := 6) (n := 1) (x := x6) (v := (x6 + 1)) (loc' := [.ref 68, .int x1, .int x2, .int x3, .long x4, xmk, .int (x6 + 1), .int x7, .long x8, xmk]) (by decide +kernel) rfl rfl rfl).trans ?_
      refine (R_goto (off := (-140)) (t := 11) (by decide +kernel) (by decide +kernel)).trans ?_
      rfl
  · refine (R_pure0 (ins := .aload_n 0) (len := 1) (loc' := [.ref 68, .int x1, .int x2, .int x3, .long x4, xmk, .int x6, .int x7, .long x8, xmk]) (st' := [.ref 68]) (by decide +kernel) (fun _ => rfl)).trans ?_
    refine (R_pure0 (ins := .lload 4) (len := 2) (loc' := [.ref 68, .int x1, .int x2, .int x3, .long x4, xmk, .int x6, .int x7, .long x8, xmk]) (st' := [.long x4, .ref 68]) (by decide +kernel) (fun _ => rfl)).trans ?_
    refine (R_ldc2 (i := 274) (v := 12) (by decide +kernel) (by decide +kernel)).trans ?_
    refine (R_pure0 (ins := .iload_n 3) (len := 1) (loc' := [.ref 68, .int x1, .int x2, .int x3, .long x4, xmk, .int x6, .int x7, .long x8, xmk]) (st' := [.int x3, .long 12, .long x4, .ref 68]) (by decide +kernel) (fun _ => rfl)).trans ?_
    refine (R_static (i := 204) (f := 151) (kd := 2) (na := 1) (ml := 3) (As := [.int x3]) (rest := [.long 12, .long x4, .ref 68]) (by decide +kernel) (by decide +kernel) (by decide) (by decide +kernel) rfl rfl (by decide +kernel) (Nat.le_of_ble_eq_true rfl)).trans ?_
    rfl
theorem s225_134 {L : Nat} {mi : Nat → Nat → Int32} {ml : Nat → Nat → Int64} {d : Nat} {Q : Option Value → xM → Prop} {x1 x2 x3 x6 x7 y : Int32} {x4 x8 z0 z1 : Int64} : X 225 134 [.ref 68, .int x1, .int x2, .int x3, .long x4, xmk, .int x6, .int x7, .long x8, xmk] [.int y, .long z0, .long z1] (SH L, mi, ml, MR) d Q =
    if (y < x1) then (X 225 11 [.ref 68, .int x1, .int x2, .int x3, .long (z1 + (z0 * (0 : Int32).toInt64)), xmk, .int (x6 + 1), .int x7, .long x8, xmk] [] (SH L, mi, ml, MR) d Q) else (X 225 11 [.ref 68, .int x1, .int x2, .int x3, .long (z1 + (z0 * (1 : Int32).toInt64)), xmk, .int (x6 + 1), .int x7, .long x8, xmk] [] (SH L, mi, ml, MR) d Q) := by
  refine (R_pure0 (ins := .iload_n 1) (len := 1) (loc' := [.ref 68, .int x1, .int x2, .int x3, .long x4, xmk, .int x6, .int x7, .long x8, xmk]) (st' := [.int x1, .int y, .long z0, .long z1]) (by decide +kernel) (fun _ => rfl)).trans ?_
  refine (R_icmp_lt (off := 7) (t := 142) (by decide +kernel) (by decide +kernel)).trans (ite_congr rfl (fun c0 => ?_) (fun c0 => ?_))
  · refine (R_iconst (n := 0) (v := 0) (by decide +kernel) (by decide +kernel)).trans ?_
    refine (R_pure0 (ins := .i2l) (len := 1) (loc' := [.ref 68, .int x1, .int x2, .int x3, .long x4, xmk, .int x6, .int x7, .long x8, xmk]) (st' := [.long (0 : Int32).toInt64, .long z0, .long z1]) (by decide +kernel) (fun _ => rfl)).trans ?_
    refine (R_pure0 (ins := .lmul) (len := 1) (loc' := [.ref 68, .int x1, .int x2, .int x3, .long x4, xmk, .int x6, .int x7, .long x8, xmk]) (st' := [.long (z0 * (0 : Int32).toInt64), .long z1]) (by decide +kernel) (fun _ => rfl)).trans ?_
    refine (R_pure0 (ins := .ladd) (len := 1) (loc' := [.ref 68, .int x1, .int x2, .int x3, .long x4, xmk, .int x6, .int x7, .long x8, xmk]) (st' := [.long (z1 + (z0 * (0 : Int32).toInt64))]) (by decide +kernel) (fun _ => rfl)).trans ?_
    refine (R_pure0 (ins := .lstore 4) (len := 2) (loc' := [.ref 68, .int x1, .int x2, .int x3, .long (z1 + (z0 * (0 : Int32).toInt64)), xmk, .int x6, .int x7, .long x8, xmk]) (st' := []) (by decide +kernel) (fun _ => rfl)).trans ?_
    refine (R_iinc (k := 6) (n := 1) (x := x6) (v := (x6 + 1)) (loc' := [.ref 68, .int x1, .int x2, .int x3, .long (z1 + (z0 * (0 : Int32).toInt64)), xmk, .int (x6 + 1), .int x7, .long x8, xmk]) (by decide +kernel) rfl rfl rfl).trans ?_
    refine (R_goto (off := (-140)) (t := 11) (by decide +kernel) (by decide +kernel)).trans ?_
    rfl
  · refine (R_iconst (n := 1) (v := 1) (by decide +kernel) (by decide +kernel)).trans ?_
    refine (R_goto (off := 4) (t := 143) (by decide +kernel) (by decide +kernel)).trans ?_
    refine (R_pure0 (ins := .i2l) (len := 1) (loc' := [.ref 68, .int x1, .int x2, .int x3, .long x4, xmk, .int x6, .int x7, .long x8, xmk]) (st' := [.long (1 : Int32).toInt64, .long z0, .long z1]) (by decide +kernel) (fun _ => rfl)).trans ?_
    refine (R_pure0 (ins := .lmul) (len := 1) (loc' := [.ref 68, .int x1, .int x2, .int x3, .long x4, xmk, .int x6, .int x7, .long x8, xmk]) (st' := [.long (z0 * (1 : Int32).toInt64), .long z1]) (by decide +kernel) (fun _ => rfl)).trans ?_
    refine (R_pure0 (ins := .ladd) (len := 1) (loc' := [.ref 68, .int x1, .int x2, .int x3, .long x4, xmk, .int x6, .int x7, .long x8, xmk]) (st' := [.long (z1 + (z0 * (1 : Int32).toInt64))]) (by decide +kernel) (fun _ => rfl)).trans ?_
    refine (R_pure0 (ins := .lstore 4) (len := 2) (loc' := [.ref 68, .int x1, .int x2, .int x3, .long (z1 + (z0 * (1 : Int32).toInt64)), xmk, .int x6, .int x7, .long x8, xmk]) (st' := []) (by decide +kernel) (fun _ => rfl)).trans ?_
    refine (R_iinc (k := 6) (n := 1) (x := x6) (v := (x6 + 1)) (loc' := [.ref 68, .int x1, .int x2, .int x3, .long (z1 + (z0 * (1 : Int32).toInt64)), xmk, .int (x6 + 1), .int x7, .long x8, xmk]) (by decide +kernel) rfl rfl rfl).trans ?_
    refine (R_goto (off := (-140)) (t := 11) (by decide +kernel) (by decide +kernel)).trans ?_
    rfl
theorem s225_164v2 {L : Nat} {mi : Nat → Nat → Int32} {ml : Nat → Nat → Int64} {d : Nat} {Q : Option Value → xM → Prop} {x1 x2 x3 x6 x7 y : Int32} {x4 x8 z0 z1 : Int64} : X 225 164 [.ref 68, .int x1, .int x2, .int x3, .long x4, xmk, .int x6, .int x7, .long x8, xmk] [.int y, .long z0, .long z1, .ref 68] (SH L, mi, ml, MR) (d + 1) Q =
    Xm 224 [.long z0, .int y] (SH L, mi, ml, MR) d (fun v μ' => X 225 167 [.ref 68, .int x1, .int x2, .int x3, .long x4, xmk, .int x6, .int x7, .long x8, xmk] (v.toList ++ [.long z1, .ref 68]) μ' (d + 1) Q) := by
  refine (R_static (i := 270) (f := 224) (kd := 2) (na := 2) (ml := 6) (As := [.long z0, .int y]) (rest := [.long z1, .ref 68]) (by decide +kernel) (by decide +kernel) (by decide) (by decide +kernel) rfl rfl (by decide +kernel) (Nat.le_of_ble_eq_true rfl)).trans ?_
  rfl
theorem s225_167v2 {L : Nat} {mi : Nat → Nat → Int32} {ml : Nat → Nat → Int64} {d : Nat} {Q : Option Value → xM → Prop} {x1 x2 x3 x6 x7 : Int32} {x4 x8 y z0 : Int64} : X 225 167 [.ref 68, .int x1, .int x2, .int x3, .long x4, xmk, .int x6, .int x7, .long x8, xmk] [.long y, .long z0, .ref 68] (SH L, mi, ml, MR) (d + 1) Q =
    Xm 211 [.ref 68, .long z0, .long y] (SH L, mi, ml, MR) d (fun v μ' => X 225 170 [.ref 68, .int x1, .int x2, .int x3, .long x4, xmk, .int x6, .int x7, .long x8, xmk] (v.toList ++ []) μ' (d + 1) Q) := by
  refine (R_virt (i := 252) (f := 211) (kd := 0) (na := 2) (ml := 11) (ci := 10) (n := 33) (b := 68) (As := [.long z0, .long y]) (rest := []) (by decide +kernel) (by decide +kernel) (by decide) (by decide +kernel) rfl (by decide +kernel) rfl rfl (by decide +kernel) (Nat.le_of_ble_eq_true rfl)).trans ?_
  rfl
theorem s225_170v2 {L : Nat} {mi : Nat → Nat → Int32} {ml : Nat → Nat → Int64} {d : Nat} {Q : Option Value → xM → Prop} {x1 x2 x3 x6 x7 y : Int32} {x4 x8 : Int64} : X 225 170 [.ref 68, .int x1, .int x2, .int x3, .long x4, xmk, .int x6, .int x7, .long x8, xmk] [.int y] (SH L, mi, ml, MR) d Q =
    Q (some (.int y)) (SH L, mi, ml, MR) := by
  exact R_ireturn (by decide +kernel) (by decide +kernel)
theorem s226 {L : Nat} {mi : Nat → Nat → Int32} {ml : Nat → Nat → Int64} {d : Nat} {Q : Option Value → xM → Prop} {x1 x2 : Int32} : Xm 226 [.ref 68, .int x1, .int x2] (SH L, mi, ml, MR) (d + 1) Q =
    Xm 149 [.long x1.toInt64, .long 0, .long 6] (SH L, mi, ml, MR) d (fun v μ' => X 226 9 [.ref 68, .int x1, .int x2] (v.toList ++ []) μ' (d + 1) Q) := by
  rw [Xm_ent (n := 3) (loc := [.ref 68, .int x1, .int x2]) (by decide +kernel) rfl]
  refine (R_pure0 (ins := .iload_n 1) (len := 1) (loc' := [.ref 68, .int x1, .int x2]) (st' := [.int x1]) (by decide +kernel) (fun _ => rfl)).trans ?_
  refine (R_pure0 (ins := .i2l) (len := 1) (loc' := [.ref 68, .int x1, .int x2]) (st' := [.long x1.toInt64]) (by decide +kernel) (fun _ => rfl)).trans ?_
  refine (R_lconst (n := 0) (v := 0) (by decide +kernel) (by decide +kernel)).trans ?_
  refine (R_ldc2 (i := 276) (v := 6) (by decide +kernel) (by decide +kernel)).trans ?_
  refine (R_static (i := 87) (f := 149) (kd := 2) (na := 3) (ml := 6) (As := [.long x1.toInt64, .long 0, .long 6]) (rest := []) (by decide +kernel) (by decide +kernel) (by decide) (by decide +kernel) rfl rfl (by decide +kernel) (Nat.le_of_ble_eq_true rfl)).trans ?_
  rfl
theorem s226_9 {L : Nat} {mi : Nat → Nat → Int32} {ml : Nat → Nat → Int64} {d : Nat} {Q : Option Value → xM → Prop} {x1 x2 y : Int32} : X 226 9 [.ref 68, .int x1, .int x2] [.int y] (SH L, mi, ml, MR) (d + 1) Q =
    if (y = 0) then (Q (some (.int (-1))) (SH L, mi, ml, MR)) else (Xm 149 [.long x2.toInt64, .long 0, .long 12] (SH L, mi, ml, MR) d (fun v μ' => X 226 21 [.ref 68, .int x1, .int x2] (v.toList ++ []) μ' (d + 1) Q)) := by
  refine (R_if_eq (off := 15) (t := 24) (by decide +kernel) (by decide +kernel)).trans (ite_congr rfl (fun c0 => ?_) (fun c0 => ?_))
  · refine (R_iconst (n := (-1)) (v := (-1)) (by decide +kernel) (by decide +kernel)).trans ?_
    exact R_ireturn (by decide +kernel) (by decide +kernel)
  · refine (R_pure0 (ins := .iload_n 2) (len := 1) (loc' := [.ref 68, .int x1, .int x2]) (st' := [.int x2]) (by decide +kernel) (fun _ => rfl)).trans ?_
    refine (R_pure0 (ins := .i2l) (len := 1) (loc' := [.ref 68, .int x1, .int x2]) (st' := [.long x2.toInt64]) (by decide +kernel) (fun _ => rfl)).trans ?_
    refine (R_lconst (n := 0) (v := 0) (by decide +kernel) (by decide +kernel)).trans ?_
    refine (R_ldc2 (i := 274) (v := 12) (by decide +kernel) (by decide +kernel)).trans ?_
    refine (R_static (i := 87) (f := 149) (kd := 2) (na := 3) (ml := 6) (As := [.long x2.toInt64, .long 0, .long 12]) (rest := []) (by decide +kernel) (by decide +kernel) (by decide) (by decide +kernel) rfl rfl (by decide +kernel) (Nat.le_of_ble_eq_true rfl)).trans ?_
    rfl
theorem s226_21 {L : Nat} {mi : Nat → Nat → Int32} {ml : Nat → Nat → Int64} {d : Nat} {Q : Option Value → xM → Prop} {x1 x2 y : Int32} : X 226 21 [.ref 68, .int x1, .int x2] [.int y] (SH L, mi, ml, MR) (d + 1) Q =
    if (y = 0) then (Q (some (.int (-1))) (SH L, mi, ml, MR)) else (if ((mi 68 4) = 0) then (Q (some (.int (-4))) (SH L, mi, ml, MR)) else (Xm 225 [.ref 68, .int x1, .int x2] (SH L, mi, ml, MR) d (fun v μ' => X 226 44 [.ref 68, .int x1, .int x2] (v.toList ++ []) μ' (d + 1) Q))) := by
  refine (R_if_ne (off := 5) (t := 26) (by decide +kernel) (by decide +kernel)).trans (ite_congr rfl (fun c0 => ?_) (fun c0 => ?_))
  · refine (R_iconst (n := (-1)) (v := (-1)) (by decide +kernel) (by decide +kernel)).trans ?_
    exact R_ireturn (by decide +kernel) (by decide +kernel)
  · refine (R_pure0 (ins := .aload_n 0) (len := 1) (loc' := [.ref 68, .int x1, .int x2]) (st' := [.ref 68]) (by decide +kernel) (fun _ => rfl)).trans ?_
    refine (R_gi (i := 131) (ci := 10) (k := 4) (n := 33) (by decide +kernel) (by decide +kernel) (by decide) rfl).trans ?_
    refine (R_if_ne (off := 8) (t := 38) (by decide +kernel) (by decide +kernel)).trans (ite_congr rfl (fun c1 => ?_) (fun c1 => ?_))
    · refine (R_bipush (n := (-4)) (v := (-4)) (by decide +kernel) (by decide +kernel)).trans ?_
      refine (R_goto (off := 9) (t := 44) (by decide +kernel) (by decide +kernel)).trans ?_
      exact R_ireturn (by decide +kernel) (by decide +kernel)
    · refine (R_pure0 (ins := .aload_n 0) (len := 1) (loc' := [.ref 68, .int x1, .int x2]) (st' := [.ref 68]) (by decide +kernel) (fun _ => rfl)).trans ?_
      refine (R_pure0 (ins := .iload_n 1) (len := 1) (loc' := [.ref 68, .int x1, .int x2]) (st' := [.int x1, .ref 68]) (by decide +kernel) (fun _ => rfl)).trans ?_
      refine (R_pure0 (ins := .iload_n 2) (len := 1) (loc' := [.ref 68, .int x1, .int x2]) (st' := [.int x2, .int x1, .ref 68]) (by decide +kernel) (fun _ => rfl)).trans ?_
      refine (R_virt (i := 278) (f := 225) (kd := 0) (na := 2) (ml := 10) (ci := 10) (n := 33) (b := 68) (As := [.int x1, .int x2]) (rest := []) (by decide +kernel) (by decide +kernel) (by decide) (by decide +kernel) rfl (by decide +kernel) rfl rfl (by decide +kernel) (Nat.le_of_ble_eq_true rfl)).trans ?_
      rfl
theorem s226_44 {L : Nat} {mi : Nat → Nat → Int32} {ml : Nat → Nat → Int64} {d : Nat} {Q : Option Value → xM → Prop} {x1 x2 y : Int32} : X 226 44 [.ref 68, .int x1, .int x2] [.int y] (SH L, mi, ml, MR) d Q =
    Q (some (.int y)) (SH L, mi, ml, MR) := by
  exact R_ireturn (by decide +kernel) (by decide +kernel)
theorem s227 {L : Nat} {mi : Nat → Nat → Int32} {ml : Nat → Nat → Int64} {d : Nat} {Q : Option Value → xM → Prop} {x1 : Int32} : Xm 227 [.ref 68, .int x1] (SH L, mi, ml, MR) (d + 1) Q =
    Xm 149 [.long x1.toInt64, .long 0, .long 12] (SH L, mi, ml, MR) d (fun v μ' => X 227 9 [.ref 68, .int x1] (v.toList ++ []) μ' (d + 1) Q) := by
  rw [Xm_ent (n := 2) (loc := [.ref 68, .int x1]) (by decide +kernel) rfl]
  refine (R_pure0 (ins := .iload_n 1) (len := 1) (loc' := [.ref 68, .int x1]) (st' := [.int x1]) (by decide +kernel) (fun _ => rfl)).trans ?_
  refine (R_pure0 (ins := .i2l) (len := 1) (loc' := [.ref 68, .int x1]) (st' := [.long x1.toInt64]) (by decide +kernel) (fun _ => rfl)).trans ?_
  refine (R_lconst (n := 0) (v := 0) (by decide +kernel) (by decide +kernel)).trans ?_
  refine (R_ldc2 (i := 274) (v := 12) (by decide +kernel) (by decide +kernel)).trans ?_
  refine (R_static (i := 87) (f := 149) (kd := 2) (na := 3) (ml := 6) (As := [.long x1.toInt64, .long 0, .long 12]) (rest := []) (by decide +kernel) (by decide +kernel) (by decide) (by decide +kernel) rfl rfl (by decide +kernel) (Nat.le_of_ble_eq_true rfl)).trans ?_
  rfl
theorem s227_9 {L : Nat} {mi : Nat → Nat → Int32} {ml : Nat → Nat → Int64} {d : Nat} {Q : Option Value → xM → Prop} {x1 y : Int32} : X 227 9 [.ref 68, .int x1] [.int y] (SH L, mi, ml, MR) (d + 1) Q =
    if (y = 0) then (Q (some (.int (-1))) (SH L, mi, ml, MR)) else (if ((mi 68 4) = 0) then (Q (some (.int (-4))) (SH L, mi, ml, MR)) else (Xm 225 [.ref 68, .int (-1), .int x1] (SH L, mi, ml, MR) d (fun v μ' => X 227 32 [.ref 68, .int x1] (v.toList ++ []) μ' (d + 1) Q))) := by
  refine (R_if_ne (off := 5) (t := 14) (by decide +kernel) (by decide +kernel)).trans (ite_congr rfl (fun c0 => ?_) (fun c0 => ?_))
  · refine (R_iconst (n := (-1)) (v := (-1)) (by decide +kernel) (by decide +kernel)).trans ?_
    exact R_ireturn (by decide +kernel) (by decide +kernel)
  · refine (R_pure0 (ins := .aload_n 0) (len := 1) (loc' := [.ref 68, .int x1]) (st' := [.ref 68]) (by decide +kernel) (fun _ => rfl)).trans ?_
    refine (R_gi (i := 131) (ci := 10) (k := 4) (n := 33) (by decide +kernel) (by decide +kernel) (by decide) rfl).trans ?_
    refine (R_if_ne (off := 8) (t := 26) (by decide +kernel) (by decide +kernel)).trans (ite_congr rfl (fun c1 => ?_) (fun c1 => ?_))
    · refine (R_bipush (n := (-4)) (v := (-4)) (by decide +kernel) (by decide +kernel)).trans ?_
      refine (R_goto (off := 9) (t := 32) (by decide +kernel) (by decide +kernel)).trans ?_
      exact R_ireturn (by decide +kernel) (by decide +kernel)
    · refine (R_pure0 (ins := .aload_n 0) (len := 1) (loc' := [.ref 68, .int x1]) (st' := [.ref 68]) (by decide +kernel) (fun _ => rfl)).trans ?_
      refine (R_iconst (n := (-1)) (v := (-1)) (by decide +kernel) (by decide +kernel)).trans ?_
      refine (R_pure0 (ins := .iload_n 1) (len := 1) (loc' := [.ref 68, .int x1]) (st' := [.int x1, .int (-1), .ref 68]) (by decide +kernel) (fun _ => rfl)).trans ?_
      refine (R_virt (i := 278) (f := 225) (kd := 0) (na := 2) (ml := 10) (ci := 10) (n := 33) (b := 68) (As := [.int (-1), .int x1]) (rest := []) (by decide +kernel) (by decide +kernel) (by decide) (by decide +kernel) rfl (by decide +kernel) rfl rfl (by decide +kernel) (Nat.le_of_ble_eq_true rfl)).trans ?_
      rfl
theorem s227_32 {L : Nat} {mi : Nat → Nat → Int32} {ml : Nat → Nat → Int64} {d : Nat} {Q : Option Value → xM → Prop} {x1 y : Int32} : X 227 32 [.ref 68, .int x1] [.int y] (SH L, mi, ml, MR) d Q =
    Q (some (.int y)) (SH L, mi, ml, MR) := by
  exact R_ireturn (by decide +kernel) (by decide +kernel)
theorem s228 {L : Nat} {mi : Nat → Nat → Int32} {ml : Nat → Nat → Int64} {d : Nat} {Q : Option Value → xM → Prop} {x1 x2 : Int32} : Xm 228 [.ref 68, .int x1, .int x2] (SH L, mi, ml, MR) (d + 1) Q =
    Xm 149 [.long x1.toInt64, .long 1, .long 20] (SH L, mi, ml, MR) d (fun v μ' => X 228 9 [.ref 68, .int x1, .int x2, xmk, xmk, xmk, xmk, xmk, xmk] (v.toList ++ []) μ' (d + 1) Q) := by
  rw [Xm_ent (n := 9) (loc := [.ref 68, .int x1, .int x2, xmk, xmk, xmk, xmk, xmk, xmk]) (by decide +kernel) rfl]
  refine (R_pure0 (ins := .iload_n 1) (len := 1) (loc' := [.ref 68, .int x1, .int x2, xmk, xmk, xmk, xmk, xmk, xmk]) (st' := [.int x1]) (by decide +kernel) (fun _ => rfl)).trans ?_
  refine (R_pure0 (ins := .i2l) (len := 1) (loc' := [.ref 68, .int x1, .int x2, xmk, xmk, xmk, xmk, xmk, xmk]) (st' := [.long x1.toInt64]) (by decide +kernel) (fun _ => rfl)).trans ?_
  refine (R_lconst (n := 1) (v := 1) (by decide +kernel) (by decide +kernel)).trans ?_
  refine (R_ldc2 (i := 281) (v := 20) (by decide +kernel) (by decide +kernel)).trans ?_
  refine (R_static (i := 87) (f := 149) (kd := 2) (na := 3) (ml := 6) (As := [.long x1.toInt64, .long 1, .long 20]) (rest := []) (by decide +kernel) (by decide +kernel) (by decide) (by decide +kernel) rfl rfl (by decide +kernel) (Nat.le_of_ble_eq_true rfl)).trans ?_
  rfl
theorem s228_9 {L : Nat} {mi : Nat → Nat → Int32} {ml : Nat → Nat → Int64} {d : Nat} {Q : Option Value → xM → Prop} {x1 x2 y : Int32} : X 228 9 [.ref 68, .int x1, .int x2, xmk, xmk, xmk, xmk, xmk, xmk] [.int y] (SH L, mi, ml, MR) (d + 1) Q =
    if (y = 0) then (Q (some (.int (-1))) (SH L, mi, ml, MR)) else (Xm 149 [.long x2.toInt64, .long 1, .long 2147483646] (SH L, mi, ml, MR) d (fun v μ' => X 228 21 [.ref 68, .int x1, .int x2, xmk, xmk, xmk, xmk, xmk, xmk] (v.toList ++ []) μ' (d + 1) Q)) := by
  refine (R_if_eq (off := 15) (t := 24) (by decide +kernel) (by decide +kernel)).trans (ite_congr rfl (fun c0 => ?_) (fun c0 => ?_))
  · refine (R_iconst (n := (-1)) (v := (-1)) (by decide +kernel) (by decide +kernel)).trans ?_
    exact R_ireturn (by decide +kernel) (by decide +kernel)
  · refine (R_pure0 (ins := .iload_n 2) (len := 1) (loc' := [.ref 68, .int x1, .int x2, xmk, xmk, xmk, xmk, xmk, xmk]) (st' := [.int x2]) (by decide +kernel) (fun _ => rfl)).trans ?_
    refine (R_pure0 (ins := .i2l) (len := 1) (loc' := [.ref 68, .int x1, .int x2, xmk, xmk, xmk, xmk, xmk, xmk]) (st' := [.long x2.toInt64]) (by decide +kernel) (fun _ => rfl)).trans ?_
    refine (R_lconst (n := 1) (v := 1) (by decide +kernel) (by decide +kernel)).trans ?_
    refine (R_ldc2 (i := 283) (v := 2147483646) (by decide +kernel) (by decide +kernel)).trans ?_
    refine (R_static (i := 87) (f := 149) (kd := 2) (na := 3) (ml := 6) (As := [.long x2.toInt64, .long 1, .long 2147483646]) (rest := []) (by decide +kernel) (by decide +kernel) (by decide) (by decide +kernel) rfl rfl (by decide +kernel) (Nat.le_of_ble_eq_true rfl)).trans ?_
    rfl
theorem s228_21 {L : Nat} {mi : Nat → Nat → Int32} {ml : Nat → Nat → Int64} {d : Nat} {Q : Option Value → xM → Prop} {x1 x2 y : Int32} : X 228 21 [.ref 68, .int x1, .int x2, xmk, xmk, xmk, xmk, xmk, xmk] [.int y] (SH L, mi, ml, MR) d Q =
    if (y = 0) then (Q (some (.int (-1))) (SH L, mi, ml, MR)) else (if ((mi 68 4) = 0) then (Q (some (.int (-4))) (SH L, mi, ml, MR)) else (if ((40 : Int32) < ((mi 68 10) + x1)) then (Q (some (.int (-2))) (SH L, mi, ml, MR)) else (X 228 59 [.ref 68, .int x1, .int x2, .long x2.toInt64, xmk, .int 0, .int 0, xmk, xmk] [] (SH L, mi, ml, MR) d Q))) := by
  refine (R_if_ne (off := 5) (t := 26) (by decide +kernel) (by decide +kernel)).trans (ite_congr rfl (fun c0 => ?_) (fun c0 => ?_))
  · refine (R_iconst (n := (-1)) (v := (-1)) (by decide +kernel) (by decide +kernel)).trans ?_
    exact R_ireturn (by decide +kernel) (by decide +kernel)
  · refine (R_pure0 (ins := .aload_n 0) (len := 1) (loc' := [.ref 68, .int x1, .int x2, xmk, xmk, xmk, xmk, xmk, xmk]) (st' := [.ref 68]) (by decide +kernel) (fun _ => rfl)).trans ?_
    refine (R_gi (i := 131) (ci := 10) (k := 4) (n := 33) (by decide +kernel) (by decide +kernel) (by decide) rfl).trans ?_
    refine (R_if_ne (off := 6) (t := 36) (by decide +kernel) (by decide +kernel)).trans (ite_congr rfl (fun c1 => ?_) (fun c1 => ?_))
    · refine (R_bipush (n := (-4)) (v := (-4)) (by decide +kernel) (by decide +kernel)).trans ?_
      exact R_ireturn (by decide +kernel) (by decide +kernel)
    · refine (R_pure0 (ins := .aload_n 0) (len := 1) (loc' := [.ref 68, .int x1, .int x2, xmk, xmk, xmk, xmk, xmk, xmk]) (st' := [.ref 68]) (by decide +kernel) (fun _ => rfl)).trans ?_
      refine (R_gi (i := 134) (ci := 10) (k := 10) (n := 33) (by decide +kernel) (by decide +kernel) (by decide) rfl).trans ?_
      refine (R_pure0 (ins := .iload_n 1) (len := 1) (loc' := [.ref 68, .int x1, .int x2, xmk, xmk, xmk, xmk, xmk, xmk]) (st' := [.int x1, .int (mi 68 10)]) (by decide +kernel) (fun _ => rfl)).trans ?_
      refine (R_pure0 (ins := .iadd) (len := 1) (loc' := [.ref 68, .int x1, .int x2, xmk, xmk, xmk, xmk, xmk, xmk]) (st' := [.int ((mi 68 10) + x1)]) (by decide +kernel) (fun _ => rfl)).trans ?_
      refine (R_bipush (n := 40) (v := 40) (by decide +kernel) (by decide +kernel)).trans ?_
      refine (R_icmp_le (off := 6) (t := 50) (by decide +kernel) (by decide +kernel)).trans (ite_congr rfl (fun c2 => ?_) (fun c2 => ?_))
      · refine (R_bipush (n := (-2)) (v := (-2)) (by decide +kernel) (by decide +kernel)).trans ?_
        exact R_ireturn (by decide +kernel) (by decide +kernel)
      · refine (R_pure0 (ins := .iload_n 2) (len := 1) (loc' := [.ref 68, .int x1, .int x2, xmk, xmk, xmk, xmk, xmk, xmk]) (st' := [.int x2]) (by decide +kernel) (fun _ => rfl)).trans ?_
        refine (R_pure0 (ins := .i2l) (len := 1) (loc' := [.ref 68, .int x1, .int x2, xmk, xmk, xmk, xmk, xmk, xmk]) (st' := [.long x2.toInt64]) (by decide +kernel) (fun _ => rfl)).trans ?_
        refine (R_pure0 (ins := .lstore_n 3) (len := 1) (loc' := [.ref 68, .int x1, .int x2, .long x2.toInt64, xmk, xmk, xmk, xmk, xmk]) (st' := []) (by decide +kernel) (fun _ => rfl)).trans ?_
        refine (R_iconst (n := 0) (v := 0) (by decide +kernel) (by decide +kernel)).trans ?_
        refine (R_pure0 (ins := .istore 5) (len := 2) (loc' := [.ref 68, .int x1, .int x2, .long x2.toInt64, xmk, .int 0, xmk, xmk, xmk]) (st' := []) (by decide +kernel) (fun _ => rfl)).trans ?_
        refine (R_iconst (n := 0) (v := 0) (by decide +kernel) (by decide +kernel)).trans ?_
        refine (R_pure0 (ins := .istore 6) (len := 2) (loc' := [.ref 68, .int x1, .int x2, .long x2.toInt64, xmk, .int 0, .int 0, xmk, xmk]) (st' := []) (by decide +kernel) (fun _ => rfl)).trans ?_
        rfl
theorem s228_59 {L : Nat} {mi : Nat → Nat → Int32} {ml : Nat → Nat → Int64} {d : Nat} {Q : Option Value → xM → Prop} {x1 x2 x5 x6 : Int32} {x3 : Int64} (h1 : (x6 < x1) → ¬ (mi 68 4).toInt64 = 0) : X 228 59 [.ref 68, .int x1, .int x2, .long x3, xmk, .int x5, .int x6, xmk, xmk] [] (SH L, mi, ml, MR) (d + 1) Q =
    if (x6 < x1) then (Xm 183 [.ref 68, .int ((((48271 * x3) - (48271 * x3) / 2147483647 * 2147483647) / 8) - (((48271 * x3) - (48271 * x3) / 2147483647 * 2147483647) / 8) / (mi 68 4).toInt64 * (mi 68 4).toInt64).toInt32] (SH L, mi, ml, MR) d (fun v μ' => X 228 95 [.ref 68, .int x1, .int x2, .long ((48271 * x3) - (48271 * x3) / 2147483647 * 2147483647), xmk, .int x5, .int x6, .int ((((48271 * x3) - (48271 * x3) / 2147483647 * 2147483647) / 8) - (((48271 * x3) - (48271 * x3) / 2147483647 * 2147483647) / 8) / (mi 68 4).toInt64 * (mi 68 4).toInt64).toInt32, xmk] (v.toList ++ []) μ' (d + 1) Q)) else (Q (some (.int x5)) (SH L, mi, ml, MR)) := by
  refine (R_pure0 (ins := .iload 6) (len := 2) (loc' := [.ref 68, .int x1, .int x2, .long x3, xmk, .int x5, .int x6, xmk, xmk]) (st' := [.int x6]) (by decide +kernel) (fun _ => rfl)).trans ?_
  refine (R_pure0 (ins := .iload_n 1) (len := 1) (loc' := [.ref 68, .int x1, .int x2, .long x3, xmk, .int x5, .int x6, xmk, xmk]) (st' := [.int x1, .int x6]) (by decide +kernel) (fun _ => rfl)).trans ?_
  refine (R_icmp_ge (off := 108) (t := 170) (by decide +kernel) (by decide +kernel)).trans (ite_congr rfl (fun c0 => ?_) (fun c0 => ?_))
  · refine (R_ldc2 (i := 285) (v := 48271) (by decide +kernel) (by decide +kernel)).trans ?_
    refine (R_pure0 (ins := .lload_n 3) (len := 1) (loc' := [.ref 68, .int x1, .int x2, .long x3, xmk, .int x5, .int x6, xmk, xmk]) (st' := [.long x3, .long 48271]) (by decide +kernel) (fun _ => rfl)).trans ?_
    refine (R_pure0 (ins := .lmul) (len := 1) (loc' := [.ref 68, .int x1, .int x2, .long x3, xmk, .int x5, .int x6, xmk, xmk]) (st' := [.long (48271 * x3)]) (by decide +kernel) (fun _ => rfl)).trans ?_
    refine (R_ldc2 (i := 287) (v := 2147483647) (by decide +kernel) (by decide +kernel)).trans ?_
    refine (R_lrem (x := (48271 * x3)) (y := 2147483647) (by decide +kernel) (by decide)).trans ?_
    refine (R_pure0 (ins := .lstore_n 3) (len := 1) (loc' := [.ref 68, .int x1, .int x2, .long ((48271 * x3) - (48271 * x3) / 2147483647 * 2147483647), xmk, .int x5, .int x6, xmk, xmk]) (st' := []) (by decide +kernel) (fun _ => rfl)).trans ?_
    refine (R_pure0 (ins := .lload_n 3) (len := 1) (loc' := [.ref 68, .int x1, .int x2, .long ((48271 * x3) - (48271 * x3) / 2147483647 * 2147483647), xmk, .int x5, .int x6, xmk, xmk]) (st' := [.long ((48271 * x3) - (48271 * x3) / 2147483647 * 2147483647)]) (by decide +kernel) (fun _ => rfl)).trans ?_
    refine (R_ldc2 (i := 137) (v := 8) (by decide +kernel) (by decide +kernel)).trans ?_
    refine (R_ldiv (x := ((48271 * x3) - (48271 * x3) / 2147483647 * 2147483647)) (y := 8) (by decide +kernel) (by decide)).trans ?_
    refine (R_pure0 (ins := .aload_n 0) (len := 1) (loc' := [.ref 68, .int x1, .int x2, .long ((48271 * x3) - (48271 * x3) / 2147483647 * 2147483647), xmk, .int x5, .int x6, xmk, xmk]) (st' := [.ref 68, .long (((48271 * x3) - (48271 * x3) / 2147483647 * 2147483647) / 8)]) (by decide +kernel) (fun _ => rfl)).trans ?_
    refine (R_gi (i := 131) (ci := 10) (k := 4) (n := 33) (by decide +kernel) (by decide +kernel) (by decide) rfl).trans ?_
    refine (R_pure0 (ins := .i2l) (len := 1) (loc' := [.ref 68, .int x1, .int x2, .long ((48271 * x3) - (48271 * x3) / 2147483647 * 2147483647), xmk, .int x5, .int x6, xmk, xmk]) (st' := [.long (mi 68 4).toInt64, .long (((48271 * x3) - (48271 * x3) / 2147483647 * 2147483647) / 8)]) (by decide +kernel) (fun _ => rfl)).trans ?_
    refine (R_lrem (x := (((48271 * x3) - (48271 * x3) / 2147483647 * 2147483647) / 8)) (y := (mi 68 4).toInt64) (by decide +kernel) (h1 c0)).trans ?_
    refine (R_pure0 (ins := .l2i) (len := 1) (loc' := [.ref 68, .int x1, .int x2, .long ((48271 * x3) - (48271 * x3) / 2147483647 * 2147483647), xmk, .int x5, .int x6, xmk, xmk]) (st' := [.int ((((48271 * x3) - (48271 * x3) / 2147483647 * 2147483647) / 8) - (((48271 * x3) - (48271 * x3) / 2147483647 * 2147483647) / 8) / (mi 68 4).toInt64 * (mi 68 4).toInt64).toInt32]) (by decide +kernel) (fun _ => rfl)).trans ?_
    refine (R_pure0 (ins := .istore 7) (len := 2) (loc' := [.ref 68, .int x1, .int x2, .long ((48271 * x3) - (48271 * x3) / 2147483647 * 2147483647), xmk, .int x5, .int x6, .int ((((48271 * x3) - (48271 * x3) / 2147483647 * 2147483647) / 8) - (((48271 * x3) - (48271 * x3) / 2147483647 * 2147483647) / 8) / (mi 68 4).toInt64 * (mi 68 4).toInt64).toInt32, xmk]) (st' := []) (by decide +kernel) (fun _ => rfl)).trans ?_
    refine (R_pure0 (ins := .aload_n 0) (len := 1) (loc' := [.ref 68, .int x1, .int x2, .long ((48271 * x3) - (48271 * x3) / 2147483647 * 2147483647), xmk, .int x5, .int x6, .int ((((48271 * x3) - (48271 * x3) / 2147483647 * 2147483647) / 8) - (((48271 * x3) - (48271 * x3) / 2147483647 * 2147483647) / 8) / (mi 68 4).toInt64 * (mi 68 4).toInt64).toInt32, xmk]) (st' := [.ref 68]) (by decide +kernel) (fun _ => rfl)).trans ?_
    refine (R_pure0 (ins := .iload 7) (len := 2) (loc' := [.ref 68, .int x1, .int x2, .long ((48271 * x3) - (48271 * x3) / 2147483647 * 2147483647), xmk, .int x5, .int x6, .int ((((48271 * x3) - (48271 * x3) / 2147483647 * 2147483647) / 8) - (((48271 * x3) - (48271 * x3) / 2147483647 * 2147483647) / 8) / (mi 68 4).toInt64 * (mi 68 4).toInt64).toInt32, xmk]) (st' := [.int ((((48271 * x3) - (48271 * x3) / 2147483647 * 2147483647) / 8) - (((48271 * x3) - (48271 * x3) / 2147483647 * 2147483647) / 8) / (mi 68 4).toInt64 * (mi 68 4).toInt64).toInt32, .ref 68]) (by decide +kernel) (fun _ => rfl)).trans ?_
    refine (R_virt (i := 194) (f := 183) (kd := 0) (na := 1) (ml := 2) (ci := 10) (n := 33) (b := 68) (As := [.int ((((48271 * x3) - (48271 * x3) / 2147483647 * 2147483647) / 8) - (((48271 * x3) - (48271 * x3) / 2147483647 * 2147483647) / 8) / (mi 68 4).toInt64 * (mi 68 4).toInt64).toInt32]) (rest := []) (by decide +kernel) (by decide +kernel) (by decide) (by decide +kernel) rfl (by decide +kernel) rfl rfl (by decide +kernel) (Nat.le_of_ble_eq_true rfl)).trans ?_
    rfl
  · refine (R_pure0 (ins := .iload 5) (len := 2) (loc' := [.ref 68, .int x1, .int x2, .long x3, xmk, .int x5, .int x6, xmk, xmk]) (st' := [.int x5]) (by decide +kernel) (fun _ => rfl)).trans ?_
    exact R_ireturn (by decide +kernel) (by decide +kernel)
theorem s228_95 {L : Nat} {mi : Nat → Nat → Int32} {ml : Nat → Nat → Int64} {d : Nat} {Q : Option Value → xM → Prop} {x1 x2 x5 x6 x7 y : Int32} {x3 : Int64} : X 228 95 [.ref 68, .int x1, .int x2, .long x3, xmk, .int x5, .int x6, .int x7, xmk] [.int y] (SH L, mi, ml, MR) (d + 1) Q =
    if (y = 0) then (Xm 189 [.ref 68] (SH L, mi, ml, MR) d (fun v μ' => X 228 123 [.ref 68, .int x1, .int x2, .long x3, xmk, .int x5, .int x6, .int x7, xmk] (v.toList ++ []) μ' (d + 1) Q)) else (Xm 193 [.ref 68, .int x7] (SH L, mi, ml, MR) d (fun v μ' => X 228 104 [.ref 68, .int x1, .int x2, .long x3, xmk, .int x5, .int x6, .int x7, xmk] (v.toList ++ []) μ' (d + 1) Q)) := by
  refine (R_if_eq (off := 24) (t := 119) (by decide +kernel) (by decide +kernel)).trans (ite_congr rfl (fun c0 => ?_) (fun c0 => ?_))
  · refine (R_pure0 (ins := .aload_n 0) (len := 1) (loc' := [.ref 68, .int x1, .int x2, .long x3, xmk, .int x5, .int x6, .int x7, xmk]) (st' := [.ref 68]) (by decide +kernel) (fun _ => rfl)).trans ?_
    refine (R_virt (i := 188) (f := 189) (kd := 0) (na := 0) (ml := 1) (ci := 10) (n := 33) (b := 68) (As := []) (rest := []) (by decide +kernel) (by decide +kernel) (by decide) (by decide +kernel) rfl (by decide +kernel) rfl rfl (by decide +kernel) (Nat.le_of_ble_eq_true rfl)).trans ?_
    rfl
  · refine (R_pure0 (ins := .aload_n 0) (len := 1) (loc' := [.ref 68, .int x1, .int x2, .long x3, xmk, .int x5, .int x6, .int x7, xmk]) (st' := [.ref 68]) (by decide +kernel) (fun _ => rfl)).trans ?_
    refine (R_pure0 (ins := .iload 7) (len := 2) (loc' := [.ref 68, .int x1, .int x2, .long x3, xmk, .int x5, .int x6, .int x7, xmk]) (st' := [.int x7, .ref 68]) (by decide +kernel) (fun _ => rfl)).trans ?_
    refine (R_virt (i := 197) (f := 193) (kd := 0) (na := 1) (ml := 2) (ci := 10) (n := 33) (b := 68) (As := [.int x7]) (rest := []) (by decide +kernel) (by decide +kernel) (by decide) (by decide +kernel) rfl (by decide +kernel) rfl rfl (by decide +kernel) (Nat.le_of_ble_eq_true rfl)).trans ?_
    rfl
theorem s228_123 {L : Nat} {mi : Nat → Nat → Int32} {ml : Nat → Nat → Int64} {d : Nat} {Q : Option Value → xM → Prop} {x1 x2 x5 x6 x7 : Int32} {x3 : Int64} : X 228 123 [.ref 68, .int x1, .int x2, .long x3, xmk, .int x5, .int x6, .int x7, xmk] [] (SH L, mi, ml, MR) (d + 1) Q =
    Xm 191 [.ref 68, .int x7] (SH L, mi, ml, MR) d (fun v μ' => X 228 129 [.ref 68, .int x1, .int x2, .long x3, xmk, .int x5, .int x6, .int x7, xmk] (v.toList ++ []) μ' (d + 1) Q) := by
  refine (R_pure0 (ins := .aload_n 0) (len := 1) (loc' := [.ref 68, .int x1, .int x2, .long x3, xmk, .int x5, .int x6, .int x7, xmk]) (st' := [.ref 68]) (by decide +kernel) (fun _ => rfl)).trans ?_
  refine (R_pure0 (ins := .iload 7) (len := 2) (loc' := [.ref 68, .int x1, .int x2, .long x3, xmk, .int x5, .int x6, .int x7, xmk]) (st' := [.int x7, .ref 68]) (by decide +kernel) (fun _ => rfl)).trans ?_
  refine (R_virt (i := 191) (f := 191) (kd := 0) (na := 1) (ml := 2) (ci := 10) (n := 33) (b := 68) (As := [.int x7]) (rest := []) (by decide +kernel) (by decide +kernel) (by decide) (by decide +kernel) rfl (by decide +kernel) rfl rfl (by decide +kernel) (Nat.le_of_ble_eq_true rfl)).trans ?_
  rfl
theorem s228_104 {L : Nat} {mi : Nat → Nat → Int32} {ml : Nat → Nat → Int64} {d : Nat} {Q : Option Value → xM → Prop} {x1 x2 x5 x6 x7 : Int32} {x3 : Int64} : X 228 104 [.ref 68, .int x1, .int x2, .long x3, xmk, .int x5, .int x6, .int x7, xmk] [] (SH L, mi, ml, MR) d Q =
    X 228 59 [.ref 68, .int x1, .int x2, .long x3, xmk, .int (x5 + (mi 77 (14 : Int32).toNatClampNeg)), .int (x6 + 1), .int x7, xmk] [] (SH L, mi, ml, MR) d Q := by
  refine (R_pure0 (ins := .iload 5) (len := 2) (loc' := [.ref 68, .int x1, .int x2, .long x3, xmk, .int x5, .int x6, .int x7, xmk]) (st' := [.int x5]) (by decide +kernel) (fun _ => rfl)).trans ?_
  refine (R_pure0 (ins := .aload_n 0) (len := 1) (loc' := [.ref 68, .int x1, .int x2, .long x3, xmk, .int x5, .int x6, .int x7, xmk]) (st' := [.ref 68, .int x5]) (by decide +kernel) (fun _ => rfl)).trans ?_
  refine (R_gr (i := 34) (ci := 10) (k := 9) (n := 33) (b := 77) (by decide +kernel) (by decide +kernel) (by decide) rfl (SH_ref (by decide +kernel))).trans ?_
  refine (R_bipush (n := 14) (v := 14) (by decide +kernel) (by decide +kernel)).trans ?_
  refine (R_iaload (kd := 100) (n := 15) (by decide +kernel) rfl (by decide) (by decide)).trans ?_
  refine (R_pure0 (ins := .iadd) (len := 1) (loc' := [.ref 68, .int x1, .int x2, .long x3, xmk, .int x5, .int x6, .int x7, xmk]) (st' := [.int (x5 + (mi 77 (14 : Int32).toNatClampNeg))]) (by decide +kernel) (fun _ => rfl)).trans ?_
  refine (R_pure0 (ins := .istore 5) (len := 2) (loc' := [.ref 68, .int x1, .int x2, .long x3, xmk, .int (x5 + (mi 77 (14 : Int32).toNatClampNeg)), .int x6, .int x7, xmk]) (st' := []) (by decide +kernel) (fun _ => rfl)).trans ?_
  refine (R_goto (off := 48) (t := 164) (by decide +kernel) (by decide +kernel)).trans ?_
  refine (R_iinc (k := 6) (n := 1) (x := x6) (v := (x6 + 1)) (loc' := [.ref 68, .int x1, .int x2, .long x3, xmk, .int (x5 + (mi 77 (14 : Int32).toNatClampNeg)), .int (x6 + 1), .int x7, xmk]) (by decide +kernel) rfl rfl rfl).trans ?_
  refine (R_goto (off := (-108)) (t := 59) (by decide +kernel) (by decide +kernel)).trans ?_
  rfl
theorem s228_129 {L : Nat} {mi : Nat → Nat → Int32} {ml : Nat → Nat → Int64} {d : Nat} {Q : Option Value → xM → Prop} {x1 x2 x5 x6 x7 y : Int32} {x3 : Int64} (h1 : ¬ (y = 0) → ((lg_cmp (x3 - x3 / 3 * 3) 0) = 0) → xin (0 + x7) 15 = true) (h2 : ¬ (y = 0) → ((lg_cmp (x3 - x3 / 3 * 3) 0) = 0) → xin (0 + x7) 15 = true) : X 228 129 [.ref 68, .int x1, .int x2, .long x3, xmk, .int x5, .int x6, .int x7, xmk] [.int y] (SH L, mi, ml, MR) d Q =
    if (y = 0) then (X 228 59 [.ref 68, .int x1, .int x2, .long x3, xmk, .int x5, .int (x6 + 1), .int x7, .int 13] [] (SH L, (xw mi 77 (13 : Int32).toNatClampNeg ((mi 77 (13 : Int32).toNatClampNeg) + 1)), ml, MR) d Q) else (if ((lg_cmp (x3 - x3 / 3 * 3) 0) = 0) then (X 228 59 [.ref 68, .int x1, .int x2, .long x3, xmk, .int x5, .int (x6 + 1), .int x7, .int (0 + x7)] [] (SH L, (xw mi 77 (0 + x7).toNatClampNeg ((mi 77 (0 + x7).toNatClampNeg) + 1)), ml, MR) d Q) else (X 228 59 [.ref 68, .int x1, .int x2, .long x3, xmk, .int x5, .int (x6 + 1), .int x7, .int 13] [] (SH L, (xw mi 77 (13 : Int32).toNatClampNeg ((mi 77 (13 : Int32).toNatClampNeg) + 1)), ml, MR) d Q)) := by
  refine (R_if_eq (off := 20) (t := 149) (by decide +kernel) (by decide +kernel)).trans (ite_congr rfl (fun c0 => ?_) (fun c0 => ?_))
  · refine (R_bipush (n := 13) (v := 13) (by decide +kernel) (by decide +kernel)).trans ?_
    refine (R_pure0 (ins := .istore 8) (len := 2) (loc' := [.ref 68, .int x1, .int x2, .long x3, xmk, .int x5, .int x6, .int x7, .int 13]) (st' := []) (by decide +kernel) (fun _ => rfl)).trans ?_
    refine (R_pure0 (ins := .aload_n 0) (len := 1) (loc' := [.ref 68, .int x1, .int x2, .long x3, xmk, .int x5, .int x6, .int x7, .int 13]) (st' := [.ref 68]) (by decide +kernel) (fun _ => rfl)).trans ?_
    refine (R_gr (i := 34) (ci := 10) (k := 9) (n := 33) (b := 77) (by decide +kernel) (by decide +kernel) (by decide) rfl (SH_ref (by decide +kernel))).trans ?_
    refine (R_pure0 (ins := .iload 8) (len := 2) (loc' := [.ref 68, .int x1, .int x2, .long x3, xmk, .int x5, .int x6, .int x7, .int 13]) (st' := [.int 13, .ref 77]) (by decide +kernel) (fun _ => rfl)).trans ?_
    refine (R_pure0 (ins := .dup2) (len := 1) (loc' := [.ref 68, .int x1, .int x2, .long x3, xmk, .int x5, .int x6, .int x7, .int 13]) (st' := [.int 13, .ref 77, .int 13, .ref 77]) (by decide +kernel) (fun _ => rfl)).trans ?_
    refine (R_iaload (kd := 100) (n := 15) (by decide +kernel) rfl (by decide) (by decide)).trans ?_
    refine (R_iconst (n := 1) (v := 1) (by decide +kernel) (by decide +kernel)).trans ?_
    refine (R_pure0 (ins := .iadd) (len := 1) (loc' := [.ref 68, .int x1, .int x2, .long x3, xmk, .int x5, .int x6, .int x7, .int 13]) (st' := [.int ((mi 77 (13 : Int32).toNatClampNeg) + 1), .int 13, .ref 77]) (by decide +kernel) (fun _ => rfl)).trans ?_
    refine (R_iastore (n := 15) (by decide +kernel) rfl (by decide)).trans ?_
    refine (R_iinc (k := 6) (n := 1) (x := x6) (v := (x6 + 1)) (loc' := [.ref 68, .int x1, .int x2, .long x3, xmk, .int x5, .int (x6 + 1), .int x7, .int 13]) (by decide +kernel) rfl rfl rfl).trans ?_
    refine (R_goto (off := (-108)) (t := 59) (by decide +kernel) (by decide +kernel)).trans ?_
    rfl
  · refine (R_pure0 (ins := .lload_n 3) (len := 1) (loc' := [.ref 68, .int x1, .int x2, .long x3, xmk, .int x5, .int x6, .int x7, xmk]) (st' := [.long x3]) (by decide +kernel) (fun _ => rfl)).trans ?_
    refine (R_ldc2 (i := 91) (v := 3) (by decide +kernel) (by decide +kernel)).trans ?_
    refine (R_lrem (x := x3) (y := 3) (by decide +kernel) (by decide)).trans ?_
    refine (R_lconst (n := 0) (v := 0) (by decide +kernel) (by decide +kernel)).trans ?_
    refine (R_pure0 (ins := .lcmp) (len := 1) (loc' := [.ref 68, .int x1, .int x2, .long x3, xmk, .int x5, .int x6, .int x7, xmk]) (st' := [.int (lg_cmp (x3 - x3 / 3 * 3) 0)]) (by decide +kernel) (fun _ => rfl)).trans ?_
    refine (R_if_ne (off := 10) (t := 149) (by decide +kernel) (by decide +kernel)).trans (ite_congr rfl (fun c1 => ?_) (fun c1 => ?_))
    · refine (R_iconst (n := 0) (v := 0) (by decide +kernel) (by decide +kernel)).trans ?_
      refine (R_pure0 (ins := .iload 7) (len := 2) (loc' := [.ref 68, .int x1, .int x2, .long x3, xmk, .int x5, .int x6, .int x7, xmk]) (st' := [.int x7, .int 0]) (by decide +kernel) (fun _ => rfl)).trans ?_
      refine (R_pure0 (ins := .iadd) (len := 1) (loc' := [.ref 68, .int x1, .int x2, .long x3, xmk, .int x5, .int x6, .int x7, xmk]) (st' := [.int (0 + x7)]) (by decide +kernel) (fun _ => rfl)).trans ?_
      refine (R_goto (off := 5) (t := 151) (by decide +kernel) (by decide +kernel)).trans ?_
      refine (R_pure0 (ins := .istore 8) (len := 2) (loc' := [.ref 68, .int x1, .int x2, .long x3, xmk, .int x5, .int x6, .int x7, .int (0 + x7)]) (st' := []) (by decide +kernel) (fun _ => rfl)).trans ?_
      refine (R_pure0 (ins := .aload_n 0) (len := 1) (loc' := [.ref 68, .int x1, .int x2, .long x3, xmk, .int x5, .int x6, .int x7, .int (0 + x7)]) (st' := [.ref 68]) (by decide +kernel) (fun _ => rfl)).trans ?_
      refine (R_gr (i := 34) (ci := 10) (k := 9) (n := 33) (b := 77) (by decide +kernel) (by decide +kernel) (by decide) rfl (SH_ref (by decide +kernel))).trans ?_
      refine (R_pure0 (ins := .iload 8) (len := 2) (loc' := [.ref 68, .int x1, .int x2, .long x3, xmk, .int x5, .int x6, .int x7, .int (0 + x7)]) (st' := [.int (0 + x7), .ref 77]) (by decide +kernel) (fun _ => rfl)).trans ?_
      refine (R_pure0 (ins := .dup2) (len := 1) (loc' := [.ref 68, .int x1, .int x2, .long x3, xmk, .int x5, .int x6, .int x7, .int (0 + x7)]) (st' := [.int (0 + x7), .ref 77, .int (0 + x7), .ref 77]) (by decide +kernel) (fun _ => rfl)).trans ?_
      refine (R_iaload (kd := 100) (n := 15) (by decide +kernel) rfl (by decide) (h1 c0 c1)).trans ?_
      refine (R_iconst (n := 1) (v := 1) (by decide +kernel) (by decide +kernel)).trans ?_
      refine (R_pure0 (ins := .iadd) (len := 1) (loc' := [.ref 68, .int x1, .int x2, .long x3, xmk, .int x5, .int x6, .int x7, .int (0 + x7)]) (st' := [.int ((mi 77 (0 + x7).toNatClampNeg) + 1), .int (0 + x7), .ref 77]) (by decide +kernel) (fun _ => rfl)).trans ?_
      refine (R_iastore (n := 15) (by decide +kernel) rfl (h2 c0 c1)).trans ?_
      refine (R_iinc (k := 6) (n := 1) (x := x6) (v := (x6 + 1)) (loc' := [.ref 68, .int x1, .int x2, .long x3, xmk, .int x5, .int (x6 + 1), .int x7, .int (0 + x7)]) (by decide +kernel) rfl rfl rfl).trans ?_
      refine (R_goto (off := (-108)) (t := 59) (by decide +kernel) (by decide +kernel)).trans ?_
      rfl
    · refine (R_bipush (n := 13) (v := 13) (by decide +kernel) (by decide +kernel)).trans ?_
      refine (R_pure0 (ins := .istore 8) (len := 2) (loc' := [.ref 68, .int x1, .int x2, .long x3, xmk, .int x5, .int x6, .int x7, .int 13]) (st' := []) (by decide +kernel) (fun _ => rfl)).trans ?_
      refine (R_pure0 (ins := .aload_n 0) (len := 1) (loc' := [.ref 68, .int x1, .int x2, .long x3, xmk, .int x5, .int x6, .int x7, .int 13]) (st' := [.ref 68]) (by decide +kernel) (fun _ => rfl)).trans ?_
      refine (R_gr (i := 34) (ci := 10) (k := 9) (n := 33) (b := 77) (by decide +kernel) (by decide +kernel) (by decide) rfl (SH_ref (by decide +kernel))).trans ?_
      refine (R_pure0 (ins := .iload 8) (len := 2) (loc' := [.ref 68, .int x1, .int x2, .long x3, xmk, .int x5, .int x6, .int x7, .int 13]) (st' := [.int 13, .ref 77]) (by decide +kernel) (fun _ => rfl)).trans ?_
      refine (R_pure0 (ins := .dup2) (len := 1) (loc' := [.ref 68, .int x1, .int x2, .long x3, xmk, .int x5, .int x6, .int x7, .int 13]) (st' := [.int 13, .ref 77, .int 13, .ref 77]) (by decide +kernel) (fun _ => rfl)).trans ?_
      refine (R_iaload (kd := 100) (n := 15) (by decide +kernel) rfl (by decide) (by decide)).trans ?_
      refine (R_iconst (n := 1) (v := 1) (by decide +kernel) (by decide +kernel)).trans ?_
      refine (R_pure0 (ins := .iadd) (len := 1) (loc' := [.ref 68, .int x1, .int x2, .long x3, xmk, .int x5, .int x6, .int x7, .int 13]) (st' := [.int ((mi 77 (13 : Int32).toNatClampNeg) + 1), .int 13, .ref 77]) (by decide +kernel) (fun _ => rfl)).trans ?_
      refine (R_iastore (n := 15) (by decide +kernel) rfl (by decide)).trans ?_
      refine (R_iinc (k := 6) (n := 1) (x := x6) (v := (x6 + 1)) (loc' := [.ref 68, .int x1, .int x2, .long x3, xmk, .int x5, .int (x6 + 1), .int x7, .int 13]) (by decide +kernel) rfl rfl rfl).trans ?_
      refine (R_goto (off := (-108)) (t := 59) (by decide +kernel) (by decide +kernel)).trans ?_
      rfl
theorem s228_59v2 {L : Nat} {mi : Nat → Nat → Int32} {ml : Nat → Nat → Int64} {d : Nat} {Q : Option Value → xM → Prop} {x1 x2 x5 x6 x7 : Int32} {x3 : Int64} (h1 : (x6 < x1) → ¬ (mi 68 4).toInt64 = 0) : X 228 59 [.ref 68, .int x1, .int x2, .long x3, xmk, .int x5, .int x6, .int x7, xmk] [] (SH L, mi, ml, MR) (d + 1) Q =
    if (x6 < x1) then (Xm 183 [.ref 68, .int ((((48271 * x3) - (48271 * x3) / 2147483647 * 2147483647) / 8) - (((48271 * x3) - (48271 * x3) / 2147483647 * 2147483647) / 8) / (mi 68 4).toInt64 * (mi 68 4).toInt64).toInt32] (SH L, mi, ml, MR) d (fun v μ' => X 228 95 [.ref 68, .int x1, .int x2, .long ((48271 * x3) - (48271 * x3) / 2147483647 * 2147483647), xmk, .int x5, .int x6, .int ((((48271 * x3) - (48271 * x3) / 2147483647 * 2147483647) / 8) - (((48271 * x3) - (48271 * x3) / 2147483647 * 2147483647) / 8) / (mi 68 4).toInt64 * (mi 68 4).toInt64).toInt32, xmk] (v.toList ++ []) μ' (d + 1) Q)) else (Q (some (.int x5)) (SH L, mi, ml, MR)) := by
  refine (R_pure0 (ins := .iload 6) (len := 2) (loc' := [.ref 68, .int x1, .int x2, .long x3, xmk, .int x5, .int x6, .int x7, xmk]) (st' := [.int x6]) (by decide +kernel) (fun _ => rfl)).trans ?_
  refine (R_pure0 (ins := .iload_n 1) (len := 1) (loc' := [.ref 68, .int x1, .int x2, .long x3, xmk, .int x5, .int x6, .int x7, xmk]) (st' := [.int x1, .int x6]) (by decide +kernel) (fun _ => rfl)).trans ?_
  refine (R_icmp_ge (off := 108) (t := 170) (by decide +kernel) (by decide +kernel)).trans (ite_congr rfl (fun c0 => ?_) (fun c0 => ?_))
  · refine (R_ldc2 (i := 285) (v := 48271) (by decide +kernel) (by decide +kernel)).trans ?_
    refine (R_pure0 (ins := .lload_n 3) (len := 1) (loc' := [.ref 68, .int x1, .int x2, .long x3, xmk, .int x5, .int x6, .int x7, xmk]) (st' := [.long x3, .long 48271]) (by decide +kernel) (fun _ => rfl)).trans ?_
    refine (R_pure0 (ins := .lmul) (len := 1) (loc' := [.ref 68, .int x1, .int x2, .long x3, xmk, .int x5, .int x6, .int x7, xmk]) (st' := [.long (48271 * x3)]) (by decide +kernel) (fun _ => rfl)).trans ?_
    refine (R_ldc2 (i := 287) (v := 2147483647) (by decide +kernel) (by decide +kernel)).trans ?_
    refine (R_lrem (x := (48271 * x3)) (y := 2147483647) (by decide +kernel) (by decide)).trans ?_
    refine (R_pure0 (ins := .lstore_n 3) (len := 1) (loc' := [.ref 68, .int x1, .int x2, .long ((48271 * x3) - (48271 * x3) / 2147483647 * 2147483647), xmk, .int x5, .int x6, .int x7, xmk]) (st' := []) (by decide +kernel) (fun _ => rfl)).trans ?_
    refine (R_pure0 (ins := .lload_n 3) (len := 1) (loc' := [.ref 68, .int x1, .int x2, .long ((48271 * x3) - (48271 * x3) / 2147483647 * 2147483647), xmk, .int x5, .int x6, .int x7, xmk]) (st' := [.long ((48271 * x3) - (48271 * x3) / 2147483647 * 2147483647)]) (by decide +kernel) (fun _ => rfl)).trans ?_
    refine (R_ldc2 (i := 137) (v := 8) (by decide +kernel) (by decide +kernel)).trans ?_
    refine (R_ldiv (x := ((48271 * x3) - (48271 * x3) / 2147483647 * 2147483647)) (y := 8) (by decide +kernel) (by decide)).trans ?_
    refine (R_pure0 (ins := .aload_n 0) (len := 1) (loc' := [.ref 68, .int x1, .int x2, .long ((48271 * x3) - (48271 * x3) / 2147483647 * 2147483647), xmk, .int x5, .int x6, .int x7, xmk]) (st' := [.ref 68, .long (((48271 * x3) - (48271 * x3) / 2147483647 * 2147483647) / 8)]) (by decide +kernel) (fun _ => rfl)).trans ?_
    refine (R_gi (i := 131) (ci := 10) (k := 4) (n := 33) (by decide +kernel) (by decide +kernel) (by decide) rfl).trans ?_
    refine (R_pure0 (ins := .i2l) (len := 1) (loc' := [.ref 68, .int x1, .int x2, .long ((48271 * x3) - (48271 * x3) / 2147483647 * 2147483647), xmk, .int x5, .int x6, .int x7, xmk]) (st' := [.long (mi 68 4).toInt64, .long (((48271 * x3) - (48271 * x3) / 2147483647 * 2147483647) / 8)]) (by decide +kernel) (fun _ => rfl)).trans ?_
    refine (R_lrem (x := (((48271 * x3) - (48271 * x3) / 2147483647 * 2147483647) / 8)) (y := (mi 68 4).toInt64) (by decide +kernel) (h1 c0)).trans ?_
    refine (R_pure0 (ins := .l2i) (len := 1) (loc' := [.ref 68, .int x1, .int x2, .long ((48271 * x3) - (48271 * x3) / 2147483647 * 2147483647), xmk, .int x5, .int x6, .int x7, xmk]) (st' := [.int ((((48271 * x3) - (48271 * x3) / 2147483647 * 2147483647) / 8) - (((48271 * x3) - (48271 * x3) / 2147483647 * 2147483647) / 8) / (mi 68 4).toInt64 * (mi 68 4).toInt64).toInt32]) (by decide +kernel) (fun _ => rfl)).trans ?_
    refine (R_pure0 (ins := .istore 7) (len := 2) (loc' := [.ref 68, .int x1, .int x2, .long ((48271 * x3) - (48271 * x3) / 2147483647 * 2147483647), xmk, .int x5, .int x6, .int ((((48271 * x3) - (48271 * x3) / 2147483647 * 2147483647) / 8) - (((48271 * x3) - (48271 * x3) / 2147483647 * 2147483647) / 8) / (mi 68 4).toInt64 * (mi 68 4).toInt64).toInt32, xmk]) (st' := []) (by decide +kernel) (fun _ => rfl)).trans ?_
    refine (R_pure0 (ins := .aload_n 0) (len := 1) (loc' := [.ref 68, .int x1, .int x2, .long ((48271 * x3) - (48271 * x3) / 2147483647 * 2147483647), xmk, .int x5, .int x6, .int ((((48271 * x3) - (48271 * x3) / 2147483647 * 2147483647) / 8) - (((48271 * x3) - (48271 * x3) / 2147483647 * 2147483647) / 8) / (mi 68 4).toInt64 * (mi 68 4).toInt64).toInt32, xmk]) (st' := [.ref 68]) (by decide +kernel) (fun _ => rfl)).trans ?_
    refine (R_pure0 (ins := .iload 7) (len := 2) (loc' := [.ref 68, .int x1, .int x2, .long ((48271 * x3) - (48271 * x3) / 2147483647 * 2147483647), xmk, .int x5, .int x6, .int ((((48271 * x3) - (48271 * x3) / 2147483647 * 2147483647) / 8) - (((48271 * x3) - (48271 * x3) / 2147483647 * 2147483647) / 8) / (mi 68 4).toInt64 * (mi 68 4).toInt64).toInt32, xmk]) (st' := [.int ((((48271 * x3) - (48271 * x3) / 2147483647 * 2147483647) / 8) - (((48271 * x3) - (48271 * x3) / 2147483647 * 2147483647) / 8) / (mi 68 4).toInt64 * (mi 68 4).toInt64).toInt32, .ref 68]) (by decide +kernel) (fun _ => rfl)).trans ?_
    refine (R_virt (i := 194) (f := 183) (kd := 0) (na := 1) (ml := 2) (ci := 10) (n := 33) (b := 68) (As := [.int ((((48271 * x3) - (48271 * x3) / 2147483647 * 2147483647) / 8) - (((48271 * x3) - (48271 * x3) / 2147483647 * 2147483647) / 8) / (mi 68 4).toInt64 * (mi 68 4).toInt64).toInt32]) (rest := []) (by decide +kernel) (by decide +kernel) (by decide) (by decide +kernel) rfl (by decide +kernel) rfl rfl (by decide +kernel) (Nat.le_of_ble_eq_true rfl)).trans ?_
    rfl
  · refine (R_pure0 (ins := .iload 5) (len := 2) (loc' := [.ref 68, .int x1, .int x2, .long x3, xmk, .int x5, .int x6, .int x7, xmk]) (st' := [.int x5]) (by decide +kernel) (fun _ => rfl)).trans ?_
    exact R_ireturn (by decide +kernel) (by decide +kernel)
theorem s228_59v3 {L : Nat} {mi : Nat → Nat → Int32} {ml : Nat → Nat → Int64} {d : Nat} {Q : Option Value → xM → Prop} {x1 x2 x5 x6 x7 x8 : Int32} {x3 : Int64} (h1 : (x6 < x1) → ¬ (mi 68 4).toInt64 = 0) : X 228 59 [.ref 68, .int x1, .int x2, .long x3, xmk, .int x5, .int x6, .int x7, .int x8] [] (SH L, mi, ml, MR) (d + 1) Q =
    if (x6 < x1) then (Xm 183 [.ref 68, .int ((((48271 * x3) - (48271 * x3) / 2147483647 * 2147483647) / 8) - (((48271 * x3) - (48271 * x3) / 2147483647 * 2147483647) / 8) / (mi 68 4).toInt64 * (mi 68 4).toInt64).toInt32] (SH L, mi, ml, MR) d (fun v μ' => X 228 95 [.ref 68, .int x1, .int x2, .long ((48271 * x3) - (48271 * x3) / 2147483647 * 2147483647), xmk, .int x5, .int x6, .int ((((48271 * x3) - (48271 * x3) / 2147483647 * 2147483647) / 8) - (((48271 * x3) - (48271 * x3) / 2147483647 * 2147483647) / 8) / (mi 68 4).toInt64 * (mi 68 4).toInt64).toInt32, .int x8] (v.toList ++ []) μ' (d + 1) Q)) else (Q (some (.int x5)) (SH L, mi, ml, MR)) := by
  refine (R_pure0 (ins := .iload 6) (len := 2) (loc' := [.ref 68, .int x1, .int x2, .long x3, xmk, .int x5, .int x6, .int x7, .int x8]) (st' := [.int x6]) (by decide +kernel) (fun _ => rfl)).trans ?_
  refine (R_pure0 (ins := .iload_n 1) (len := 1) (loc' := [.ref 68, .int x1, .int x2, .long x3, xmk, .int x5, .int x6, .int x7, .int x8]) (st' := [.int x1, .int x6]) (by decide +kernel) (fun _ => rfl)).trans ?_
  refine (R_icmp_ge (off := 108) (t := 170) (by decide +kernel) (by decide +kernel)).trans (ite_congr rfl (fun c0 => ?_) (fun c0 => ?_))
  · refine (R_ldc2 (i := 285) (v := 48271) (by decide +kernel) (by decide +kernel)).trans ?_
    refine (R_pure0 (ins := .lload_n 3) (len := 1) (loc' := [.ref 68, .int x1, .int x2, .long x3, xmk, .int x5, .int x6, .int x7, .int x8]) (st' := [.long x3, .long 48271]) (by decide +kernel) (fun _ => rfl)).trans ?_
    refine (R_pure0 (ins := .lmul) (len := 1) (loc' := [.ref 68, .int x1, .int x2, .long x3, xmk, .int x5, .int x6, .int x7, .int x8]) (st' := [.long (48271 * x3)]) (by decide +kernel) (fun _ => rfl)).trans ?_
    refine (R_ldc2 (i := 287) (v := 2147483647) (by decide +kernel) (by decide +kernel)).trans ?_
    refine (R_lrem (x := (48271 * x3)) (y := 2147483647) (by decide +kernel) (by decide)).trans ?_
    refine (R_pure0 (ins := .lstore_n 3) (len := 1) (loc' := [.ref 68, .int x1, .int x2, .long ((48271 * x3) - (48271 * x3) / 2147483647 * 2147483647), xmk, .int x5, .int x6, .int x7, .int x8]) (st' := []) (by decide +kernel) (fun _ => rfl)).trans ?_
    refine (R_pure0 (ins := .lload_n 3) (len := 1) (loc' := [.ref 68, .int x1, .int x2, .long ((48271 * x3) - (48271 * x3) / 2147483647 * 2147483647), xmk, .int x5, .int x6, .int x7, .int x8]) (st' := [.long ((48271 * x3) - (48271 * x3) / 2147483647 * 2147483647)]) (by decide +kernel) (fun _ => rfl)).trans ?_
    refine (R_ldc2 (i := 137) (v := 8) (by decide +kernel) (by decide +kernel)).trans ?_
    refine (R_ldiv (x := ((48271 * x3) - (48271 * x3) / 2147483647 * 2147483647)) (y := 8) (by decide +kernel) (by decide)).trans ?_
    refine (R_pure0 (ins := .aload_n 0) (len := 1) (loc' := [.ref 68, .int x1, .int x2, .long ((48271 * x3) - (48271 * x3) / 2147483647 * 2147483647), xmk, .int x5, .int x6, .int x7, .int x8]) (st' := [.ref 68, .long (((48271 * x3) - (48271 * x3) / 2147483647 * 2147483647) / 8)]) (by decide +kernel) (fun _ => rfl)).trans ?_
    refine (R_gi (i := 131) (ci := 10) (k := 4) (n := 33) (by decide +kernel) (by decide +kernel) (by decide) rfl).trans ?_
    refine (R_pure0 (ins := .i2l) (len := 1) (loc' := [.ref 68, .int x1, .int x2, .long ((48271 * x3) - (48271 * x3) / 2147483647 * 2147483647), xmk, .int x5, .int x6, .int x7, .int x8]) (st' := [.long (mi 68 4).toInt64, .long (((48271 * x3) - (48271 * x3) / 2147483647 * 2147483647) / 8)]) (by decide +kernel) (fun _ => rfl)).trans ?_
    refine (R_lrem (x := (((48271 * x3) - (48271 * x3) / 2147483647 * 2147483647) / 8)) (y := (mi 68 4).toInt64) (by decide +kernel) (h1 c0)).trans ?_
    refine (R_pure0 (ins := .l2i) (len := 1) (loc' := [.ref 68, .int x1, .int x2, .long ((48271 * x3) - (48271 * x3) / 2147483647 * 2147483647), xmk, .int x5, .int x6, .int x7, .int x8]) (st' := [.int ((((48271 * x3) - (48271 * x3) / 2147483647 * 2147483647) / 8) - (((48271 * x3) - (48271 * x3) / 2147483647 * 2147483647) / 8) / (mi 68 4).toInt64 * (mi 68 4).toInt64).toInt32]) (by decide +kernel) (fun _ => rfl)).trans ?_
    refine (R_pure0 (ins := .istore 7) (len := 2) (loc' := [.ref 68, .int x1, .int x2, .long ((48271 * x3) - (48271 * x3) / 2147483647 * 2147483647), xmk, .int x5, .int x6, .int ((((48271 * x3) - (48271 * x3) / 2147483647 * 2147483647) / 8) - (((48271 * x3) - (48271 * x3) / 2147483647 * 2147483647) / 8) / (mi 68 4).toInt64 * (mi 68 4).toInt64).toInt32, .int x8]) (st' := []) (by decide +kernel) (fun _ => rfl)).trans ?_
    refine (R_pure0 (ins := .aload_n 0) (len := 1) (loc' := [.ref 68, .int x1, .int x2, .long ((48271 * x3) - (48271 * x3) / 2147483647 * 2147483647), xmk, .int x5, .int x6, .int ((((48271 * x3) - (48271 * x3) / 2147483647 * 2147483647) / 8) - (((48271 * x3) - (48271 * x3) / 2147483647 * 2147483647) / 8) / (mi 68 4).toInt64 * (mi 68 4).toInt64).toInt32, .int x8]) (st' := [.ref 68]) (by decide +kernel) (fun _ => rfl)).trans ?_
    refine (R_pure0 (ins := .iload 7) (len := 2) (loc' := [.ref 68, .int x1, .int x2, .long ((48271 * x3) - (48271 * x3) / 2147483647 * 2147483647), xmk, .int x5, .int x6, .int ((((48271 * x3) - (48271 * x3) / 2147483647 * 2147483647) / 8) - (((48271 * x3) - (48271 * x3) / 2147483647 * 2147483647) / 8) / (mi 68 4).toInt64 * (mi 68 4).toInt64).toInt32, .int x8]) (st' := [.int ((((48271 * x3) - (48271 * x3) / 2147483647 * 2147483647) / 8) - (((48271 * x3) - (48271 * x3) / 2147483647 * 2147483647) / 8) / (mi 68 4).toInt64 * (mi 68 4).toInt64).toInt32, .ref 68]) (by decide +kernel) (fun _ => rfl)).trans ?_
    refine (R_virt (i := 194) (f := 183) (kd := 0) (na := 1) (ml := 2) (ci := 10) (n := 33) (b := 68) (As := [.int ((((48271 * x3) - (48271 * x3) / 2147483647 * 2147483647) / 8) - (((48271 * x3) - (48271 * x3) / 2147483647 * 2147483647) / 8) / (mi 68 4).toInt64 * (mi 68 4).toInt64).toInt32]) (rest := []) (by decide +kernel) (by decide +kernel) (by decide) (by decide +kernel) rfl (by decide +kernel) rfl rfl (by decide +kernel) (Nat.le_of_ble_eq_true rfl)).trans ?_
    rfl
  · refine (R_pure0 (ins := .iload 5) (len := 2) (loc' := [.ref 68, .int x1, .int x2, .long x3, xmk, .int x5, .int x6, .int x7, .int x8]) (st' := [.int x5]) (by decide +kernel) (fun _ => rfl)).trans ?_
    exact R_ireturn (by decide +kernel) (by decide +kernel)
theorem s228_95v2 {L : Nat} {mi : Nat → Nat → Int32} {ml : Nat → Nat → Int64} {d : Nat} {Q : Option Value → xM → Prop} {x1 x2 x5 x6 x7 x8 y : Int32} {x3 : Int64} : X 228 95 [.ref 68, .int x1, .int x2, .long x3, xmk, .int x5, .int x6, .int x7, .int x8] [.int y] (SH L, mi, ml, MR) (d + 1) Q =
    if (y = 0) then (Xm 189 [.ref 68] (SH L, mi, ml, MR) d (fun v μ' => X 228 123 [.ref 68, .int x1, .int x2, .long x3, xmk, .int x5, .int x6, .int x7, .int x8] (v.toList ++ []) μ' (d + 1) Q)) else (Xm 193 [.ref 68, .int x7] (SH L, mi, ml, MR) d (fun v μ' => X 228 104 [.ref 68, .int x1, .int x2, .long x3, xmk, .int x5, .int x6, .int x7, .int x8] (v.toList ++ []) μ' (d + 1) Q)) := by
  refine (R_if_eq (off := 24) (t := 119) (by decide +kernel) (by decide +kernel)).trans (ite_congr rfl (fun c0 => ?_) (fun c0 => ?_))
  · refine (R_pure0 (ins := .aload_n 0) (len := 1) (loc' := [.ref 68, .int x1, .int x2, .long x3, xmk, .int x5, .int x6, .int x7, .int x8]) (st' := [.ref 68]) (by decide +kernel) (fun _ => rfl)).trans ?_
    refine (R_virt (i := 188) (f := 189) (kd := 0) (na := 0) (ml := 1) (ci := 10) (n := 33) (b := 68) (As := []) (rest := []) (by decide +kernel) (by decide +kernel) (by decide) (by decide +kernel) rfl (by decide +kernel) rfl rfl (by decide +kernel) (Nat.le_of_ble_eq_true rfl)).trans ?_
    rfl
  · refine (R_pure0 (ins := .aload_n 0) (len := 1) (loc' := [.ref 68, .int x1, .int x2, .long x3, xmk, .int x5, .int x6, .int x7, .int x8]) (st' := [.ref 68]) (by decide +kernel) (fun _ => rfl)).trans ?_
    refine (R_pure0 (ins := .iload 7) (len := 2) (loc' := [.ref 68, .int x1, .int x2, .long x3, xmk, .int x5, .int x6, .int x7, .int x8]) (st' := [.int x7, .ref 68]) (by decide +kernel) (fun _ => rfl)).trans ?_
    refine (R_virt (i := 197) (f := 193) (kd := 0) (na := 1) (ml := 2) (ci := 10) (n := 33) (b := 68) (As := [.int x7]) (rest := []) (by decide +kernel) (by decide +kernel) (by decide) (by decide +kernel) rfl (by decide +kernel) rfl rfl (by decide +kernel) (Nat.le_of_ble_eq_true rfl)).trans ?_
    rfl
theorem s228_123v2 {L : Nat} {mi : Nat → Nat → Int32} {ml : Nat → Nat → Int64} {d : Nat} {Q : Option Value → xM → Prop} {x1 x2 x5 x6 x7 x8 : Int32} {x3 : Int64} : X 228 123 [.ref 68, .int x1, .int x2, .long x3, xmk, .int x5, .int x6, .int x7, .int x8] [] (SH L, mi, ml, MR) (d + 1) Q =
    Xm 191 [.ref 68, .int x7] (SH L, mi, ml, MR) d (fun v μ' => X 228 129 [.ref 68, .int x1, .int x2, .long x3, xmk, .int x5, .int x6, .int x7, .int x8] (v.toList ++ []) μ' (d + 1) Q) := by
  refine (R_pure0 (ins := .aload_n 0) (len := 1) (loc' := [.ref 68, .int x1, .int x2, .long x3, xmk, .int x5, .int x6, .int x7, .int x8]) (st' := [.ref 68]) (by decide +kernel) (fun _ => rfl)).trans ?_
  refine (R_pure0 (ins := .iload 7) (len := 2) (loc' := [.ref 68, .int x1, .int x2, .long x3, xmk, .int x5, .int x6, .int x7, .int x8]) (st' := [.int x7, .ref 68]) (by decide +kernel) (fun _ => rfl)).trans ?_
  refine (R_virt (i := 191) (f := 191) (kd := 0) (na := 1) (ml := 2) (ci := 10) (n := 33) (b := 68) (As := [.int x7]) (rest := []) (by decide +kernel) (by decide +kernel) (by decide) (by decide +kernel) rfl (by decide +kernel) rfl rfl (by decide +kernel) (Nat.le_of_ble_eq_true rfl)).trans ?_
  rfl
theorem s228_104v2 {L : Nat} {mi : Nat → Nat → Int32} {ml : Nat → Nat → Int64} {d : Nat} {Q : Option Value → xM → Prop} {x1 x2 x5 x6 x7 x8 : Int32} {x3 : Int64} : X 228 104 [.ref 68, .int x1, .int x2, .long x3, xmk, .int x5, .int x6, .int x7, .int x8] [] (SH L, mi, ml, MR) d Q =
    X 228 59 [.ref 68, .int x1, .int x2, .long x3, xmk, .int (x5 + (mi 77 (14 : Int32).toNatClampNeg)), .int (x6 + 1), .int x7, .int x8] [] (SH L, mi, ml, MR) d Q := by
  refine (R_pure0 (ins := .iload 5) (len := 2) (loc' := [.ref 68, .int x1, .int x2, .long x3, xmk, .int x5, .int x6, .int x7, .int x8]) (st' := [.int x5]) (by decide +kernel) (fun _ => rfl)).trans ?_
  refine (R_pure0 (ins := .aload_n 0) (len := 1) (loc' := [.ref 68, .int x1, .int x2, .long x3, xmk, .int x5, .int x6, .int x7, .int x8]) (st' := [.ref 68, .int x5]) (by decide +kernel) (fun _ => rfl)).trans ?_
  refine (R_gr (i := 34) (ci := 10) (k := 9) (n := 33) (b := 77) (by decide +kernel) (by decide +kernel) (by decide) rfl (SH_ref (by decide +kernel))).trans ?_
  refine (R_bipush (n := 14) (v := 14) (by decide +kernel) (by decide +kernel)).trans ?_
  refine (R_iaload (kd := 100) (n := 15) (by decide +kernel) rfl (by decide) (by decide)).trans ?_
  refine (R_pure0 (ins := .iadd) (len := 1) (loc' := [.ref 68, .int x1, .int x2, .long x3, xmk, .int x5, .int x6, .int x7, .int x8]) (st' := [.int (x5 + (mi 77 (14 : Int32).toNatClampNeg))]) (by decide +kernel) (fun _ => rfl)).trans ?_
  refine (R_pure0 (ins := .istore 5) (len := 2) (loc' := [.ref 68, .int x1, .int x2, .long x3, xmk, .int (x5 + (mi 77 (14 : Int32).toNatClampNeg)), .int x6, .int x7, .int x8]) (st' := []) (by decide +kernel) (fun _ => rfl)).trans ?_
  refine (R_goto (off := 48) (t := 164) (by decide +kernel) (by decide +kernel)).trans ?_
  refine (R_iinc (k := 6) (n := 1) (x := x6) (v := (x6 + 1)) (loc' := [.ref 68, .int x1, .int x2, .long x3, xmk, .int (x5 + (mi 77 (14 : Int32).toNatClampNeg)), .int (x6 + 1), .int x7, .int x8]) (by decide +kernel) rfl rfl rfl).trans ?_
  refine (R_goto (off := (-108)) (t := 59) (by decide +kernel) (by decide +kernel)).trans ?_
  rfl
theorem s228_129v2 {L : Nat} {mi : Nat → Nat → Int32} {ml : Nat → Nat → Int64} {d : Nat} {Q : Option Value → xM → Prop} {x1 x2 x5 x6 x7 x8 y : Int32} {x3 : Int64} (h1 : ¬ (y = 0) → ((lg_cmp (x3 - x3 / 3 * 3) 0) = 0) → xin (0 + x7) 15 = true) (h2 : ¬ (y = 0) → ((lg_cmp (x3 - x3 / 3 * 3) 0) = 0) → xin (0 + x7) 15 = true) : X 228 129 [.ref 68, .int x1, .int x2, .long x3, xmk, .int x5, .int x6, .int x7, .int x8] [.int y] (SH L, mi, ml, MR) d Q =
    if (y = 0) then (X 228 59 [.ref 68, .int x1, .int x2, .long x3, xmk, .int x5, .int (x6 + 1), .int x7, .int 13] [] (SH L, (xw mi 77 (13 : Int32).toNatClampNeg ((mi 77 (13 : Int32).toNatClampNeg) + 1)), ml, MR) d Q) else (if ((lg_cmp (x3 - x3 / 3 * 3) 0) = 0) then (X 228 59 [.ref 68, .int x1, .int x2, .long x3, xmk, .int x5, .int (x6 + 1), .int x7, .int (0 + x7)] [] (SH L, (xw mi 77 (0 + x7).toNatClampNeg ((mi 77 (0 + x7).toNatClampNeg) + 1)), ml, MR) d Q) else (X 228 59 [.ref 68, .int x1, .int x2, .long x3, xmk, .int x5, .int (x6 + 1), .int x7, .int 13] [] (SH L, (xw mi 77 (13 : Int32).toNatClampNeg ((mi 77 (13 : Int32).toNatClampNeg) + 1)), ml, MR) d Q)) := by
  refine (R_if_eq (off := 20) (t := 149) (by decide +kernel) (by decide +kernel)).trans (ite_congr rfl (fun c0 => ?_) (fun c0 => ?_))
  · refine (R_bipush (n := 13) (v := 13) (by decide +kernel) (by decide +kernel)).trans ?_
    refine (R_pure0 (ins := .istore 8) (len := 2) (loc' := [.ref 68, .int x1, .int x2, .long x3, xmk, .int x5, .int x6, .int x7, .int 13]) (st' := []) (by decide +kernel) (fun _ => rfl)).trans ?_
    refine (R_pure0 (ins := .aload_n 0) (len := 1) (loc' := [.ref 68, .int x1, .int x2, .long x3, xmk, .int x5, .int x6, .int x7, .int 13]) (st' := [.ref 68]) (by decide +kernel) (fun _ => rfl)).trans ?_
    refine (R_gr (i := 34) (ci := 10) (k := 9) (n := 33) (b := 77) (by decide +kernel) (by decide +kernel) (by decide) rfl (SH_ref (by decide +kernel))).trans ?_
    refine (R_pure0 (ins := .iload 8) (len := 2) (loc' := [.ref 68, .int x1, .int x2, .long x3, xmk, .int x5, .int x6, .int x7, .int 13]) (st' := [.int 13, .ref 77]) (by decide +kernel) (fun _ => rfl)).trans ?_
    refine (R_pure0 (ins := .dup2) (len := 1) (loc' := [.ref 68, .int x1, .int x2, .long x3, xmk, .int x5, .int x6, .int x7, .int 13]) (st' := [.int 13, .ref 77, .int 13, .ref 77]) (by decide +kernel) (fun _ => rfl)).trans ?_
    refine (R_iaload (kd := 100) (n := 15) (by decide +kernel) rfl (by decide) (by decide)).trans ?_
    refine (R_iconst (n := 1) (v := 1) (by decide +kernel) (by decide +kernel)).trans ?_
    refine (R_pure0 (ins := .iadd) (len := 1) (loc' := [.ref 68, .int x1, .int x2, .long x3, xmk, .int x5, .int x6, .int x7, .int 13]) (st' := [.int ((mi 77 (13 : Int32).toNatClampNeg) + 1), .int 13, .ref 77]) (by decide +kernel) (fun _ => rfl)).trans ?_
    refine (R_iastore (n := 15) (by decide +kernel) rfl (by decide)).trans ?_
    refine (R_iinc (k := 6) (n := 1) (x := x6) (v := (x6 + 1)) (loc' := [.ref 68, .int x1, .int x2, .long x3, xmk, .int x5, .int (x6 + 1), .int x7, .int 13]) (by decide +kernel) rfl rfl rfl).trans ?_
    refine (R_goto (off := (-108)) (t := 59) (by decide +kernel) (by decide +kernel)).trans ?_
    rfl
  · refine (R_pure0 (ins := .lload_n 3) (len := 1) (loc' := [.ref 68, .int x1, .int x2, .long x3, xmk, .int x5, .int x6, .int x7, .int x8]) (st' := [.long x3]) (by decide +kernel) (fun _ => rfl)).trans ?_
    refine (R_ldc2 (i := 91) (v := 3) (by decide +kernel) (by decide +kernel)).trans ?_
    refine (R_lrem (x := x3) (y := 3) (by decide +kernel) (by decide)).trans ?_
    refine (R_lconst (n := 0) (v := 0) (by decide +kernel) (by decide +kernel)).trans ?_
    refine (R_pure0 (ins := .lcmp) (len := 1) (loc' := [.ref 68, .int x1, .int x2, .long x3, xmk, .int x5, .int x6, .int x7, .int x8]) (st' := [.int (lg_cmp (x3 - x3 / 3 * 3) 0)]) (by decide +kernel) (fun _ => rfl)).trans ?_
    refine (R_if_ne (off := 10) (t := 149) (by decide +kernel) (by decide +kernel)).trans (ite_congr rfl (fun c1 => ?_) (fun c1 => ?_))
    · refine (R_iconst (n := 0) (v := 0) (by decide +kernel) (by decide +kernel)).trans ?_
      refine (R_pure0 (ins := .iload 7) (len := 2) (loc' := [.ref 68, .int x1, .int x2, .long x3, xmk, .int x5, .int x6, .int x7, .int x8]) (st' := [.int x7, .int 0]) (by decide +kernel) (fun _ => rfl)).trans ?_
      refine (R_pure0 (ins := .iadd) (len := 1) (loc' := [.ref 68, .int x1, .int x2, .long x3, xmk, .int x5, .int x6, .int x7, .int x8]) (st' := [.int (0 + x7)]) (by decide +kernel) (fun _ => rfl)).trans ?_
      refine (R_goto (off := 5) (t := 151) (by decide +kernel) (by decide +kernel)).trans ?_
      refine (R_pure0 (ins := .istore 8) (len := 2) (loc' := [.ref 68, .int x1, .int x2, .long x3, xmk, .int x5, .int x6, .int x7, .int (0 + x7)]) (st' := []) (by decide +kernel) (fun _ => rfl)).trans ?_
      refine (R_pure0 (ins := .aload_n 0) (len := 1) (loc' := [.ref 68, .int x1, .int x2, .long x3, xmk, .int x5, .int x6, .int x7, .int (0 + x7)]) (st' := [.ref 68]) (by decide +kernel) (fun _ => rfl)).trans ?_
      refine (R_gr (i := 34) (ci := 10) (k := 9) (n := 33) (b := 77) (by decide +kernel) (by decide +kernel) (by decide) rfl (SH_ref (by decide +kernel))).trans ?_
      refine (R_pure0 (ins := .iload 8) (len := 2) (loc' := [.ref 68, .int x1, .int x2, .long x3, xmk, .int x5, .int x6, .int x7, .int (0 + x7)]) (st' := [.int (0 + x7), .ref 77]) (by decide +kernel) (fun _ => rfl)).trans ?_
      refine (R_pure0 (ins := .dup2) (len := 1) (loc' := [.ref 68, .int x1, .int x2, .long x3, xmk, .int x5, .int x6, .int x7, .int (0 + x7)]) (st' := [.int (0 + x7), .ref 77, .int (0 + x7), .ref 77]) (by decide +kernel) (fun _ => rfl)).trans ?_
      refine (R_iaload (kd := 100) (n := 15) (by decide +kernel) rfl (by decide) (h1 c0 c1)).trans ?_
      refine (R_iconst (n := 1) (v := 1) (by decide +kernel) (by decide +kernel)).trans ?_
      refine (R_pure0 (ins := .iadd) (len := 1) (loc' := [.ref 68, .int x1, .int x2, .long x3, xmk, .int x5, .int x6, .int x7, .int (0 + x7)]) (st' := [.int ((mi 77 (0 + x7).toNatClampNeg) + 1), .int (0 + x7), .ref 77]) (by decide +kernel) (fun _ => rfl)).trans ?_
      refine (R_iastore (n := 15) (by decide +kernel) rfl (h2 c0 c1)).trans ?_
      refine (R_iinc (k := 6) (n := 1) (x := x6) (v := (x6 + 1)) (loc' := [.ref 68, .int x1, .int x2, .long x3, xmk, .int x5, .int (x6 + 1), .int x7, .int (0 + x7)]) (by decide +kernel) rfl rfl rfl).trans ?_
      refine (R_goto (off := (-108)) (t := 59) (by decide +kernel) (by decide +kernel)).trans ?_
      rfl
    · refine (R_bipush (n := 13) (v := 13) (by decide +kernel) (by decide +kernel)).trans ?_
      refine (R_pure0 (ins := .istore 8) (len := 2) (loc' := [.ref 68, .int x1, .int x2, .long x3, xmk, .int x5, .int x6, .int x7, .int 13]) (st' := []) (by decide +kernel) (fun _ => rfl)).trans ?_
      refine (R_pure0 (ins := .aload_n 0) (len := 1) (loc' := [.ref 68, .int x1, .int x2, .long x3, xmk, .int x5, .int x6, .int x7, .int 13]) (st' := [.ref 68]) (by decide +kernel) (fun _ => rfl)).trans ?_
      refine (R_gr (i := 34) (ci := 10) (k := 9) (n := 33) (b := 77) (by decide +kernel) (by decide +kernel) (by decide) rfl (SH_ref (by decide +kernel))).trans ?_
      refine (R_pure0 (ins := .iload 8) (len := 2) (loc' := [.ref 68, .int x1, .int x2, .long x3, xmk, .int x5, .int x6, .int x7, .int 13]) (st' := [.int 13, .ref 77]) (by decide +kernel) (fun _ => rfl)).trans ?_
      refine (R_pure0 (ins := .dup2) (len := 1) (loc' := [.ref 68, .int x1, .int x2, .long x3, xmk, .int x5, .int x6, .int x7, .int 13]) (st' := [.int 13, .ref 77, .int 13, .ref 77]) (by decide +kernel) (fun _ => rfl)).trans ?_
      refine (R_iaload (kd := 100) (n := 15) (by decide +kernel) rfl (by decide) (by decide)).trans ?_
      refine (R_iconst (n := 1) (v := 1) (by decide +kernel) (by decide +kernel)).trans ?_
      refine (R_pure0 (ins := .iadd) (len := 1) (loc' := [.ref 68, .int x1, .int x2, .long x3, xmk, .int x5, .int x6, .int x7, .int 13]) (st' := [.int ((mi 77 (13 : Int32).toNatClampNeg) + 1), .int 13, .ref 77]) (by decide +kernel) (fun _ => rfl)).trans ?_
      refine (R_iastore (n := 15) (by decide +kernel) rfl (by decide)).trans ?_
      refine (R_iinc (k := 6) (n := 1) (x := x6) (v := (x6 + 1)) (loc' := [.ref 68, .int x1, .int x2, .long x3, xmk, .int x5, .int (x6 + 1), .int x7, .int 13]) (by decide +kernel) rfl rfl rfl).trans ?_
      refine (R_goto (off := (-108)) (t := 59) (by decide +kernel) (by decide +kernel)).trans ?_
      rfl
theorem s229 {L : Nat} {mi : Nat → Nat → Int32} {ml : Nat → Nat → Int64} {d : Nat} {Q : Option Value → xM → Prop} : Xm 229 [.ref 68] (SH L, mi, ml, MR) d Q =
    Q (some (.int (mi 68 14))) (SH L, mi, ml, MR) := by
  rw [Xm_ent (n := 1) (loc := [.ref 68]) (by decide +kernel) rfl]
  refine (R_pure0 (ins := .aload_n 0) (len := 1) (loc' := [.ref 68]) (st' := [.ref 68]) (by decide +kernel) (fun _ => rfl)).trans ?_
  refine (R_gi (i := 82) (ci := 10) (k := 14) (n := 33) (by decide +kernel) (by decide +kernel) (by decide) rfl).trans ?_
  exact R_ireturn (by decide +kernel) (by decide +kernel)
theorem s230 {L : Nat} {mi : Nat → Nat → Int32} {ml : Nat → Nat → Int64} {d : Nat} {Q : Option Value → xM → Prop} : Xm 230 [.ref 68] (SH L, mi, ml, MR) d Q =
    Q (some (.long (ml 68 15))) (SH L, mi, ml, MR) := by
  rw [Xm_ent (n := 1) (loc := [.ref 68]) (by decide +kernel) rfl]
  refine (R_pure0 (ins := .aload_n 0) (len := 1) (loc' := [.ref 68]) (st' := [.ref 68]) (by decide +kernel) (fun _ => rfl)).trans ?_
  refine (R_gl (i := 246) (ci := 10) (k := 15) (n := 33) (by decide +kernel) (by decide +kernel) (by decide) rfl).trans ?_
  exact R_lreturn (by decide +kernel) (by decide +kernel)
theorem s231 {L : Nat} {mi : Nat → Nat → Int32} {ml : Nat → Nat → Int64} {d : Nat} {Q : Option Value → xM → Prop} : Xm 231 [.ref 68] (SH L, mi, ml, MR) d Q =
    Q (some (.long (ml 68 16))) (SH L, mi, ml, MR) := by
  rw [Xm_ent (n := 1) (loc := [.ref 68]) (by decide +kernel) rfl]
  refine (R_pure0 (ins := .aload_n 0) (len := 1) (loc' := [.ref 68]) (st' := [.ref 68]) (by decide +kernel) (fun _ => rfl)).trans ?_
  refine (R_gl (i := 47) (ci := 10) (k := 16) (n := 33) (by decide +kernel) (by decide +kernel) (by decide) rfl).trans ?_
  exact R_lreturn (by decide +kernel) (by decide +kernel)
theorem s232 {L : Nat} {mi : Nat → Nat → Int32} {ml : Nat → Nat → Int64} {d : Nat} {Q : Option Value → xM → Prop} {x1 : Int32} : Xm 232 [.ref 68, .int x1] (SH L, mi, ml, MR) d Q =
    X 232 4 [.ref 68, .int x1, .int 0, .int 0] [] (SH L, mi, ml, MR) d Q := by
  rw [Xm_ent (n := 4) (loc := [.ref 68, .int x1, xmk, xmk]) (by decide +kernel) rfl]
  refine (R_iconst (n := 0) (v := 0) (by decide +kernel) (by decide +kernel)).trans ?_
  refine (R_pure0 (ins := .istore_n 2) (len := 1) (loc' := [.ref 68, .int x1, .int 0, xmk]) (st' := []) (by decide +kernel) (fun _ => rfl)).trans ?_
  refine (R_iconst (n := 0) (v := 0) (by decide +kernel) (by decide +kernel)).trans ?_
  refine (R_pure0 (ins := .istore_n 3) (len := 1) (loc' := [.ref 68, .int x1, .int 0, .int 0]) (st' := []) (by decide +kernel) (fun _ => rfl)).trans ?_
  rfl
theorem s232_4 {L : Nat} {mi : Nat → Nat → Int32} {ml : Nat → Nat → Int64} {d : Nat} {Q : Option Value → xM → Prop} {x1 x2 x3 : Int32} (h1 : (x3 < 6) → xin (x1 + x3) 15 = true) : X 232 4 [.ref 68, .int x1, .int x2, .int x3] [] (SH L, mi, ml, MR) d Q =
    if (x3 < 6) then (X 232 4 [.ref 68, .int x1, .int (x2 + (mi 77 (x1 + x3).toNatClampNeg)), .int (x3 + 1)] [] (SH L, mi, ml, MR) d Q) else (Q (some (.int x2)) (SH L, mi, ml, MR)) := by
  refine (R_pure0 (ins := .iload_n 3) (len := 1) (loc' := [.ref 68, .int x1, .int x2, .int x3]) (st' := [.int x3]) (by decide +kernel) (fun _ => rfl)).trans ?_
  refine (R_bipush (n := 6) (v := 6) (by decide +kernel) (by decide +kernel)).trans ?_
  refine (R_icmp_ge (off := 20) (t := 27) (by decide +kernel) (by decide +kernel)).trans (ite_congr rfl (fun c0 => ?_) (fun c0 => ?_))
  · refine (R_pure0 (ins := .iload_n 2) (len := 1) (loc' := [.ref 68, .int x1, .int x2, .int x3]) (st' := [.int x2]) (by decide +kernel) (fun _ => rfl)).trans ?_
    refine (R_pure0 (ins := .aload_n 0) (len := 1) (loc' := [.ref 68, .int x1, .int x2, .int x3]) (st' := [.ref 68, .int x2]) (by decide +kernel) (fun _ => rfl)).trans ?_
    refine (R_gr (i := 34) (ci := 10) (k := 9) (n := 33) (b := 77) (by decide +kernel) (by decide +kernel) (by decide) rfl (SH_ref (by decide +kernel))).trans ?_
    refine (R_pure0 (ins := .iload_n 1) (len := 1) (loc' := [.ref 68, .int x1, .int x2, .int x3]) (st' := [.int x1, .ref 77, .int x2]) (by decide +kernel) (fun _ => rfl)).trans ?_
    refine (R_pure0 (ins := .iload_n 3) (len := 1) (loc' := [.ref 68, .int x1, .int x2, .int x3]) (st' := [.int x3, .int x1, .ref 77, .int x2]) (by decide +kernel) (fun _ => rfl)).trans ?_
    refine (R_pure0 (ins := .iadd) (len := 1) (loc' := [.ref 68, .int x1, .int x2, .int x3]) (st' := [.int (x1 + x3), .ref 77, .int x2]) (by decide +kernel) (fun _ => rfl)).trans ?_
    refine (R_iaload (kd := 100) (n := 15) (by decide +kernel) rfl (by decide) (h1 c0)).trans ?_
    refine (R_pure0 (ins := .iadd) (len := 1) (loc' := [.ref 68, .int x1, .int x2, .int x3]) (st' := [.int (x2 + (mi 77 (x1 + x3).toNatClampNeg))]) (by decide +kernel) (fun _ => rfl)).trans ?_
    refine (R_pure0 (ins := .istore_n 2) (len := 1) (loc' := [.ref 68, .int x1, .int (x2 + (mi 77 (x1 + x3).toNatClampNeg)), .int x3]) (st' := []) (by decide +kernel) (fun _ => rfl)).trans ?_
    refine (R_iinc (k := 3) (n := 1) (x := x3) (v := (x3 + 1)) (loc' := [.ref 68, .int x1, .int (x2 + (mi 77 (x1 + x3).toNatClampNeg)), .int (x3 + 1)]) (by decide +kernel) rfl rfl rfl).trans ?_
    refine (R_goto (off := (-20)) (t := 4) (by decide +kernel) (by decide +kernel)).trans ?_
    rfl
  · refine (R_pure0 (ins := .iload_n 2) (len := 1) (loc' := [.ref 68, .int x1, .int x2, .int x3]) (st' := [.int x2]) (by decide +kernel) (fun _ => rfl)).trans ?_
    exact R_ireturn (by decide +kernel) (by decide +kernel)
theorem s233 {L : Nat} {mi : Nat → Nat → Int32} {ml : Nat → Nat → Int64} {d : Nat} {Q : Option Value → xM → Prop} {x1 : Int32} : Xm 233 [.ref 68, .int x1] (SH L, mi, ml, MR) d Q =
    X 233 4 [.ref 68, .int x1, .int 0, .int 0] [] (SH L, mi, ml, MR) d Q := by
  rw [Xm_ent (n := 4) (loc := [.ref 68, .int x1, xmk, xmk]) (by decide +kernel) rfl]
  refine (R_iconst (n := 0) (v := 0) (by decide +kernel) (by decide +kernel)).trans ?_
  refine (R_pure0 (ins := .istore_n 2) (len := 1) (loc' := [.ref 68, .int x1, .int 0, xmk]) (st' := []) (by decide +kernel) (fun _ => rfl)).trans ?_
  refine (R_iconst (n := 0) (v := 0) (by decide +kernel) (by decide +kernel)).trans ?_
  refine (R_pure0 (ins := .istore_n 3) (len := 1) (loc' := [.ref 68, .int x1, .int 0, .int 0]) (st' := []) (by decide +kernel) (fun _ => rfl)).trans ?_
  rfl
theorem s233_4 {L : Nat} {mi : Nat → Nat → Int32} {ml : Nat → Nat → Int64} {d : Nat} {Q : Option Value → xM → Prop} {x1 x2 x3 : Int32} (h1 : (x3 < (mi 68 4)) → (x1 = 7) → xin x3 6 = true) : X 233 4 [.ref 68, .int x1, .int x2, .int x3] [] (SH L, mi, ml, MR) (d + 1) Q =
    if (x3 < (mi 68 4)) then (if (x1 = 7) then (Xm 175 [.int (mi 73 x3.toNatClampNeg), .int 1] (SH L, mi, ml, MR) d (fun v μ' => X 233 29 [.ref 68, .int x1, .int x2, .int x3] (v.toList ++ [.int x2]) μ' (d + 1) Q)) else (X 233 47 [.ref 68, .int x1, .int x2, .int 0] [] (SH L, mi, ml, MR) (d + 1) Q)) else (X 233 47 [.ref 68, .int x1, .int x2, .int 0] [] (SH L, mi, ml, MR) (d + 1) Q) := by
  refine (R_pure0 (ins := .iload_n 3) (len := 1) (loc' := [.ref 68, .int x1, .int x2, .int x3]) (st' := [.int x3]) (by decide +kernel) (fun _ => rfl)).trans ?_
  refine (R_pure0 (ins := .aload_n 0) (len := 1) (loc' := [.ref 68, .int x1, .int x2, .int x3]) (st' := [.ref 68, .int x3]) (by decide +kernel) (fun _ => rfl)).trans ?_
  refine (R_gi (i := 131) (ci := 10) (k := 4) (n := 33) (by decide +kernel) (by decide +kernel) (by decide) rfl).trans ?_
  refine (R_icmp_ge (off := 36) (t := 45) (by decide +kernel) (by decide +kernel)).trans (ite_congr rfl (fun c0 => ?_) (fun c0 => ?_))
  · refine (R_pure0 (ins := .iload_n 1) (len := 1) (loc' := [.ref 68, .int x1, .int x2, .int x3]) (st' := [.int x1]) (by decide +kernel) (fun _ => rfl)).trans ?_
    refine (R_bipush (n := 7) (v := 7) (by decide +kernel) (by decide +kernel)).trans ?_
    refine (R_icmp_ne (off := 30) (t := 45) (by decide +kernel) (by decide +kernel)).trans (ite_congr rfl (fun c1 => ?_) (fun c1 => ?_))
    · refine (R_pure0 (ins := .iload_n 2) (len := 1) (loc' := [.ref 68, .int x1, .int x2, .int x3]) (st' := [.int x2]) (by decide +kernel) (fun _ => rfl)).trans ?_
      refine (R_pure0 (ins := .aload_n 0) (len := 1) (loc' := [.ref 68, .int x1, .int x2, .int x3]) (st' := [.ref 68, .int x2]) (by decide +kernel) (fun _ => rfl)).trans ?_
      refine (R_gr (i := 22) (ci := 10) (k := 5) (n := 33) (b := 73) (by decide +kernel) (by decide +kernel) (by decide) rfl (SH_ref (by decide +kernel))).trans ?_
      refine (R_pure0 (ins := .iload_n 3) (len := 1) (loc' := [.ref 68, .int x1, .int x2, .int x3]) (st' := [.int x3, .ref 73, .int x2]) (by decide +kernel) (fun _ => rfl)).trans ?_
      refine (R_iaload (kd := 100) (n := 6) (by decide +kernel) rfl (by decide) (h1 c0 c1)).trans ?_
      refine (R_iconst (n := 1) (v := 1) (by decide +kernel) (by decide +kernel)).trans ?_
      refine (R_static (i := 146) (f := 175) (kd := 2) (na := 2) (ml := 2) (As := [.int (mi 73 x3.toNatClampNeg), .int 1]) (rest := [.int x2]) (by decide +kernel) (by decide +kernel) (by decide) (by decide +kernel) rfl rfl (by decide +kernel) (Nat.le_of_ble_eq_true rfl)).trans ?_
      rfl
    · refine (R_iconst (n := 0) (v := 0) (by decide +kernel) (by decide +kernel)).trans ?_
      refine (R_pure0 (ins := .istore_n 3) (len := 1) (loc' := [.ref 68, .int x1, .int x2, .int 0]) (st' := []) (by decide +kernel) (fun _ => rfl)).trans ?_
      rfl
  · refine (R_iconst (n := 0) (v := 0) (by decide +kernel) (by decide +kernel)).trans ?_
    refine (R_pure0 (ins := .istore_n 3) (len := 1) (loc' := [.ref 68, .int x1, .int x2, .int 0]) (st' := []) (by decide +kernel) (fun _ => rfl)).trans ?_
    rfl
theorem s233_29 {L : Nat} {mi : Nat → Nat → Int32} {ml : Nat → Nat → Int64} {d : Nat} {Q : Option Value → xM → Prop} {x1 x2 x3 y z0 : Int32} : X 233 29 [.ref 68, .int x1, .int x2, .int x3] [.int y, .int z0] (SH L, mi, ml, MR) d Q =
    if (y = 0) then (X 233 4 [.ref 68, .int x1, .int (z0 + 0), .int (x3 + 1)] [] (SH L, mi, ml, MR) d Q) else (X 233 4 [.ref 68, .int x1, .int (z0 + 1), .int (x3 + 1)] [] (SH L, mi, ml, MR) d Q) := by
  refine (R_if_eq (off := 7) (t := 36) (by decide +kernel) (by decide +kernel)).trans (ite_congr rfl (fun c0 => ?_) (fun c0 => ?_))
  · refine (R_iconst (n := 0) (v := 0) (by decide +kernel) (by decide +kernel)).trans ?_
    refine (R_pure0 (ins := .iadd) (len := 1) (loc' := [.ref 68, .int x1, .int x2, .int x3]) (st' := [.int (z0 + 0)]) (by decide +kernel) (fun _ => rfl)).trans ?_
    refine (R_pure0 (ins := .istore_n 2) (len := 1) (loc' := [.ref 68, .int x1, .int (z0 + 0), .int x3]) (st' := []) (by decide +kernel) (fun _ => rfl)).trans ?_
    refine (R_iinc (k := 3) (n := 1) (x := x3) (v := (x3 + 1)) (loc' := [.ref 68, .int x1, .int (z0 + 0), .int (x3 + 1)]) (by decide +kernel) rfl rfl rfl).trans ?_
    refine (R_goto (off := (-38)) (t := 4) (by decide +kernel) (by decide +kernel)).trans ?_
    rfl
  · refine (R_iconst (n := 1) (v := 1) (by decide +kernel) (by decide +kernel)).trans ?_
    refine (R_goto (off := 4) (t := 37) (by decide +kernel) (by decide +kernel)).trans ?_
    refine (R_pure0 (ins := .iadd) (len := 1) (loc' := [.ref 68, .int x1, .int x2, .int x3]) (st' := [.int (z0 + 1)]) (by decide +kernel) (fun _ => rfl)).trans ?_
    refine (R_pure0 (ins := .istore_n 2) (len := 1) (loc' := [.ref 68, .int x1, .int (z0 + 1), .int x3]) (st' := []) (by decide +kernel) (fun _ => rfl)).trans ?_
    refine (R_iinc (k := 3) (n := 1) (x := x3) (v := (x3 + 1)) (loc' := [.ref 68, .int x1, .int (z0 + 1), .int (x3 + 1)]) (by decide +kernel) rfl rfl rfl).trans ?_
    refine (R_goto (off := (-38)) (t := 4) (by decide +kernel) (by decide +kernel)).trans ?_
    rfl
theorem s233_47 {L : Nat} {mi : Nat → Nat → Int32} {ml : Nat → Nat → Int64} {d : Nat} {Q : Option Value → xM → Prop} {x1 x2 x3 : Int32} (h1 : (x3 < 6) → (x1 = 8) → xin x3 6 = true) : X 233 47 [.ref 68, .int x1, .int x2, .int x3] [] (SH L, mi, ml, MR) d Q =
    if (x3 < 6) then (if (x1 = 8) then (if ((mi 69 x3.toNatClampNeg) < 0) then (X 233 47 [.ref 68, .int x1, .int (x2 + 0), .int (x3 + 1)] [] (SH L, mi, ml, MR) d Q) else (X 233 47 [.ref 68, .int x1, .int (x2 + 1), .int (x3 + 1)] [] (SH L, mi, ml, MR) d Q)) else (X 233 84 [.ref 68, .int x1, .int x2, .int 0] [] (SH L, mi, ml, MR) d Q)) else (X 233 84 [.ref 68, .int x1, .int x2, .int 0] [] (SH L, mi, ml, MR) d Q) := by
  refine (R_pure0 (ins := .iload_n 3) (len := 1) (loc' := [.ref 68, .int x1, .int x2, .int x3]) (st' := [.int x3]) (by decide +kernel) (fun _ => rfl)).trans ?_
  refine (R_bipush (n := 6) (v := 6) (by decide +kernel) (by decide +kernel)).trans ?_
  refine (R_icmp_ge (off := 32) (t := 82) (by decide +kernel) (by decide +kernel)).trans (ite_congr rfl (fun c0 => ?_) (fun c0 => ?_))
  · refine (R_pure0 (ins := .iload_n 1) (len := 1) (loc' := [.ref 68, .int x1, .int x2, .int x3]) (st' := [.int x1]) (by decide +kernel) (fun _ => rfl)).trans ?_
    refine (R_bipush (n := 8) (v := 8) (by decide +kernel) (by decide +kernel)).trans ?_
    refine (R_icmp_ne (off := 26) (t := 82) (by decide +kernel) (by decide +kernel)).trans (ite_congr rfl (fun c1 => ?_) (fun c1 => ?_))
    · refine (R_pure0 (ins := .iload_n 2) (len := 1) (loc' := [.ref 68, .int x1, .int x2, .int x3]) (st' := [.int x2]) (by decide +kernel) (fun _ => rfl)).trans ?_
      refine (R_pure0 (ins := .aload_n 0) (len := 1) (loc' := [.ref 68, .int x1, .int x2, .int x3]) (st' := [.ref 68, .int x2]) (by decide +kernel) (fun _ => rfl)).trans ?_
      refine (R_gr (i := 7) (ci := 10) (k := 0) (n := 33) (b := 69) (by decide +kernel) (by decide +kernel) (by decide) rfl (SH_ref (by decide +kernel))).trans ?_
      refine (R_pure0 (ins := .iload_n 3) (len := 1) (loc' := [.ref 68, .int x1, .int x2, .int x3]) (st' := [.int x3, .ref 69, .int x2]) (by decide +kernel) (fun _ => rfl)).trans ?_
      refine (R_iaload (kd := 100) (n := 6) (by decide +kernel) rfl (by decide) (h1 c0 c1)).trans ?_
      refine (R_if_ge (off := 7) (t := 73) (by decide +kernel) (by decide +kernel)).trans (ite_congr rfl (fun c2 => ?_) (fun c2 => ?_))
      · refine (R_iconst (n := 0) (v := 0) (by decide +kernel) (by decide +kernel)).trans ?_
        refine (R_goto (off := 4) (t := 74) (by decide +kernel) (by decide +kernel)).trans ?_
        refine (R_pure0 (ins := .iadd) (len := 1) (loc' := [.ref 68, .int x1, .int x2, .int x3]) (st' := [.int (x2 + 0)]) (by decide +kernel) (fun _ => rfl)).trans ?_
        refine (R_pure0 (ins := .istore_n 2) (len := 1) (loc' := [.ref 68, .int x1, .int (x2 + 0), .int x3]) (st' := []) (by decide +kernel) (fun _ => rfl)).trans ?_
        refine (R_iinc (k := 3) (n := 1) (x := x3) (v := (x3 + 1)) (loc' := [.ref 68, .int x1, .int (x2 + 0), .int (x3 + 1)]) (by decide +kernel) rfl rfl rfl).trans ?_
        refine (R_goto (off := (-32)) (t := 47) (by decide +kernel) (by decide +kernel)).trans ?_
        rfl
      · refine (R_iconst (n := 1) (v := 1) (by decide +kernel) (by decide +kernel)).trans ?_
        refine (R_pure0 (ins := .iadd) (len := 1) (loc' := [.ref 68, .int x1, .int x2, .int x3]) (st' := [.int (x2 + 1)]) (by decide +kernel) (fun _ => rfl)).trans ?_
        refine (R_pure0 (ins := .istore_n 2) (len := 1) (loc' := [.ref 68, .int x1, .int (x2 + 1), .int x3]) (st' := []) (by decide +kernel) (fun _ => rfl)).trans ?_
        refine (R_iinc (k := 3) (n := 1) (x := x3) (v := (x3 + 1)) (loc' := [.ref 68, .int x1, .int (x2 + 1), .int (x3 + 1)]) (by decide +kernel) rfl rfl rfl).trans ?_
        refine (R_goto (off := (-32)) (t := 47) (by decide +kernel) (by decide +kernel)).trans ?_
        rfl
    · refine (R_iconst (n := 0) (v := 0) (by decide +kernel) (by decide +kernel)).trans ?_
      refine (R_pure0 (ins := .istore_n 3) (len := 1) (loc' := [.ref 68, .int x1, .int x2, .int 0]) (st' := []) (by decide +kernel) (fun _ => rfl)).trans ?_
      rfl
  · refine (R_iconst (n := 0) (v := 0) (by decide +kernel) (by decide +kernel)).trans ?_
    refine (R_pure0 (ins := .istore_n 3) (len := 1) (loc' := [.ref 68, .int x1, .int x2, .int 0]) (st' := []) (by decide +kernel) (fun _ => rfl)).trans ?_
    rfl
theorem s233_84 {L : Nat} {mi : Nat → Nat → Int32} {ml : Nat → Nat → Int64} {d : Nat} {Q : Option Value → xM → Prop} {x1 x2 x3 : Int32} (h1 : (x3 < 4) → (x1 = 9) → xin x3 4 = true) : X 233 84 [.ref 68, .int x1, .int x2, .int x3] [] (SH L, mi, ml, MR) d Q =
    if (x3 < 4) then (if (x1 = 9) then (if ((mi 71 x3.toNatClampNeg) < 0) then (X 233 84 [.ref 68, .int x1, .int (x2 + 0), .int (x3 + 1)] [] (SH L, mi, ml, MR) d Q) else (X 233 84 [.ref 68, .int x1, .int (x2 + 1), .int (x3 + 1)] [] (SH L, mi, ml, MR) d Q)) else (X 233 120 [.ref 68, .int x1, .int x2, .int 0] [] (SH L, mi, ml, MR) d Q)) else (X 233 120 [.ref 68, .int x1, .int x2, .int 0] [] (SH L, mi, ml, MR) d Q) := by
  refine (R_pure0 (ins := .iload_n 3) (len := 1) (loc' := [.ref 68, .int x1, .int x2, .int x3]) (st' := [.int x3]) (by decide +kernel) (fun _ => rfl)).trans ?_
  refine (R_iconst (n := 4) (v := 4) (by decide +kernel) (by decide +kernel)).trans ?_
  refine (R_icmp_ge (off := 32) (t := 118) (by decide +kernel) (by decide +kernel)).trans (ite_congr rfl (fun c0 => ?_) (fun c0 => ?_))
  · refine (R_pure0 (ins := .iload_n 1) (len := 1) (loc' := [.ref 68, .int x1, .int x2, .int x3]) (st' := [.int x1]) (by decide +kernel) (fun _ => rfl)).trans ?_
    refine (R_bipush (n := 9) (v := 9) (by decide +kernel) (by decide +kernel)).trans ?_
    refine (R_icmp_ne (off := 26) (t := 118) (by decide +kernel) (by decide +kernel)).trans (ite_congr rfl (fun c1 => ?_) (fun c1 => ?_))
    · refine (R_pure0 (ins := .iload_n 2) (len := 1) (loc' := [.ref 68, .int x1, .int x2, .int x3]) (st' := [.int x2]) (by decide +kernel) (fun _ => rfl)).trans ?_
      refine (R_pure0 (ins := .aload_n 0) (len := 1) (loc' := [.ref 68, .int x1, .int x2, .int x3]) (st' := [.ref 68, .int x2]) (by decide +kernel) (fun _ => rfl)).trans ?_
      refine (R_gr (i := 16) (ci := 10) (k := 2) (n := 33) (b := 71) (by decide +kernel) (by decide +kernel) (by decide) rfl (SH_ref (by decide +kernel))).trans ?_
      refine (R_pure0 (ins := .iload_n 3) (len := 1) (loc' := [.ref 68, .int x1, .int x2, .int x3]) (st' := [.int x3, .ref 71, .int x2]) (by decide +kernel) (fun _ => rfl)).trans ?_
      refine (R_iaload (kd := 100) (n := 4) (by decide +kernel) rfl (by decide) (h1 c0 c1)).trans ?_
      refine (R_if_ge (off := 7) (t := 109) (by decide +kernel) (by decide +kernel)).trans (ite_congr rfl (fun c2 => ?_) (fun c2 => ?_))
      · refine (R_iconst (n := 0) (v := 0) (by decide +kernel) (by decide +kernel)).trans ?_
        refine (R_goto (off := 4) (t := 110) (by decide +kernel) (by decide +kernel)).trans ?_
        refine (R_pure0 (ins := .iadd) (len := 1) (loc' := [.ref 68, .int x1, .int x2, .int x3]) (st' := [.int (x2 + 0)]) (by decide +kernel) (fun _ => rfl)).trans ?_
        refine (R_pure0 (ins := .istore_n 2) (len := 1) (loc' := [.ref 68, .int x1, .int (x2 + 0), .int x3]) (st' := []) (by decide +kernel) (fun _ => rfl)).trans ?_
        refine (R_iinc (k := 3) (n := 1) (x := x3) (v := (x3 + 1)) (loc' := [.ref 68, .int x1, .int (x2 + 0), .int (x3 + 1)]) (by decide +kernel) rfl rfl rfl).trans ?_
        refine (R_goto (off := (-31)) (t := 84) (by decide +kernel) (by decide +kernel)).trans ?_
        rfl
      · refine (R_iconst (n := 1) (v := 1) (by decide +kernel) (by decide +kernel)).trans ?_
        refine (R_pure0 (ins := .iadd) (len := 1) (loc' := [.ref 68, .int x1, .int x2, .int x3]) (st' := [.int (x2 + 1)]) (by decide +kernel) (fun _ => rfl)).trans ?_
        refine (R_pure0 (ins := .istore_n 2) (len := 1) (loc' := [.ref 68, .int x1, .int (x2 + 1), .int x3]) (st' := []) (by decide +kernel) (fun _ => rfl)).trans ?_
        refine (R_iinc (k := 3) (n := 1) (x := x3) (v := (x3 + 1)) (loc' := [.ref 68, .int x1, .int (x2 + 1), .int (x3 + 1)]) (by decide +kernel) rfl rfl rfl).trans ?_
        refine (R_goto (off := (-31)) (t := 84) (by decide +kernel) (by decide +kernel)).trans ?_
        rfl
    · refine (R_iconst (n := 0) (v := 0) (by decide +kernel) (by decide +kernel)).trans ?_
      refine (R_pure0 (ins := .istore_n 3) (len := 1) (loc' := [.ref 68, .int x1, .int x2, .int 0]) (st' := []) (by decide +kernel) (fun _ => rfl)).trans ?_
      rfl
  · refine (R_iconst (n := 0) (v := 0) (by decide +kernel) (by decide +kernel)).trans ?_
    refine (R_pure0 (ins := .istore_n 3) (len := 1) (loc' := [.ref 68, .int x1, .int x2, .int 0]) (st' := []) (by decide +kernel) (fun _ => rfl)).trans ?_
    rfl
theorem s233_120 {L : Nat} {mi : Nat → Nat → Int32} {ml : Nat → Nat → Int64} {d : Nat} {Q : Option Value → xM → Prop} {x1 x2 x3 : Int32} (h1 : (x3 < 3) → (x1 = 10) → xin x3 3 = true) : X 233 120 [.ref 68, .int x1, .int x2, .int x3] [] (SH L, mi, ml, MR) (d + 1) Q =
    if (x3 < 3) then (if (x1 = 10) then (if ((mi 80 x3.toNatClampNeg) = 0) then (X 233 120 [.ref 68, .int x1, .int (x2 + 0), .int (x3 + 1)] [] (SH L, mi, ml, MR) (d + 1) Q) else (X 233 120 [.ref 68, .int x1, .int (x2 + 1), .int (x3 + 1)] [] (SH L, mi, ml, MR) (d + 1) Q)) else (if (x1 = 0) then (Q (some (.int (mi 68 4))) (SH L, mi, ml, MR)) else (if (x1 = 1) then (Q (some (.int (mi 77 (13 : Int32).toNatClampNeg))) (SH L, mi, ml, MR)) else (if (x1 = 2) then (Q (some (.int (mi 68 10))) (SH L, mi, ml, MR)) else (if (x1 = 3) then (Xm 232 [.ref 68, .int 6] (SH L, mi, ml, MR) d (fun v μ' => X 233 220 [.ref 68, .int x1, .int x2, .int x3] (v.toList ++ []) μ' (d + 1) Q)) else (if (x1 = 4) then (Xm 232 [.ref 68, .int 0] (SH L, mi, ml, MR) d (fun v μ' => X 233 226 [.ref 68, .int x1, .int x2, .int x3] (v.toList ++ []) μ' (d + 1) Q)) else (if (x1 = 5) then (Xm 195 [.ref 68] (SH L, mi, ml, MR) d (fun v μ' => X 233 231 [.ref 68, .int x1, .int x2, .int x3] (v.toList ++ []) μ' (d + 1) Q)) else (if (x1 = 6) then (Q (some (.int (mi 77 (14 : Int32).toNatClampNeg))) (SH L, mi, ml, MR)) else (Q (some (.int x2)) (SH L, mi, ml, MR)))))))))) else (if (x1 = 0) then (Q (some (.int (mi 68 4))) (SH L, mi, ml, MR)) else (if (x1 = 1) then (Q (some (.int (mi 77 (13 : Int32).toNatClampNeg))) (SH L, mi, ml, MR)) else (if (x1 = 2) then (Q (some (.int (mi 68 10))) (SH L, mi, ml, MR)) else (if (x1 = 3) then (Xm 232 [.ref 68, .int 6] (SH L, mi, ml, MR) d (fun v μ' => X 233 220 [.ref 68, .int x1, .int x2, .int x3] (v.toList ++ []) μ' (d + 1) Q)) else (if (x1 = 4) then (Xm 232 [.ref 68, .int 0] (SH L, mi, ml, MR) d (fun v μ' => X 233 226 [.ref 68, .int x1, .int x2, .int x3] (v.toList ++ []) μ' (d + 1) Q)) else (if (x1 = 5) then (Xm 195 [.ref 68] (SH L, mi, ml, MR) d (fun v μ' => X 233 231 [.ref 68, .int x1, .int x2, .int x3] (v.toList ++ []) μ' (d + 1) Q)) else (if (x1 = 6) then (Q (some (.int (mi 77 (14 : Int32).toNatClampNeg))) (SH L, mi, ml, MR)) else (Q (some (.int x2)) (SH L, mi, ml, MR))))))))) := by
  refine (R_pure0 (ins := .iload_n 3) (len := 1) (loc' := [.ref 68, .int x1, .int x2, .int x3]) (st' := [.int x3]) (by decide +kernel) (fun _ => rfl)).trans ?_
  refine (R_iconst (n := 3) (v := 3) (by decide +kernel) (by decide +kernel)).trans ?_
  refine (R_icmp_ge (off := 32) (t := 154) (by decide +kernel) (by decide +kernel)).trans (ite_congr rfl (fun c0 => ?_) (fun c0 => ?_))
  · refine (R_pure0 (ins := .iload_n 1) (len := 1) (loc' := [.ref 68, .int x1, .int x2, .int x3]) (st' := [.int x1]) (by decide +kernel) (fun _ => rfl)).trans ?_
    refine (R_bipush (n := 10) (v := 10) (by decide +kernel) (by decide +kernel)).trans ?_
    refine (R_icmp_ne (off := 26) (t := 154) (by decide +kernel) (by decide +kernel)).trans (ite_congr rfl (fun c1 => ?_) (fun c1 => ?_))
    · refine (R_pure0 (ins := .iload_n 2) (len := 1) (loc' := [.ref 68, .int x1, .int x2, .int x3]) (st' := [.int x2]) (by decide +kernel) (fun _ => rfl)).trans ?_
      refine (R_pure0 (ins := .aload_n 0) (len := 1) (loc' := [.ref 68, .int x1, .int x2, .int x3]) (st' := [.ref 68, .int x2]) (by decide +kernel) (fun _ => rfl)).trans ?_
      refine (R_gr (i := 43) (ci := 10) (k := 13) (n := 33) (b := 80) (by decide +kernel) (by decide +kernel) (by decide) rfl (SH_ref (by decide +kernel))).trans ?_
      refine (R_pure0 (ins := .iload_n 3) (len := 1) (loc' := [.ref 68, .int x1, .int x2, .int x3]) (st' := [.int x3, .ref 80, .int x2]) (by decide +kernel) (fun _ => rfl)).trans ?_
      refine (R_baload (n := 3) (by decide +kernel) rfl (h1 c0 c1)).trans ?_
      refine (R_if_eq (off := 7) (t := 145) (by decide +kernel) (by decide +kernel)).trans (ite_congr rfl (fun c2 => ?_) (fun c2 => ?_))
      · refine (R_iconst (n := 0) (v := 0) (by decide +kernel) (by decide +kernel)).trans ?_
        refine (R_pure0 (ins := .iadd) (len := 1) (loc' := [.ref 68, .int x1, .int x2, .int x3]) (st' := [.int (x2 + 0)]) (by decide +kernel) (fun _ => rfl)).trans ?_
        refine (R_pure0 (ins := .istore_n 2) (len := 1) (loc' := [.ref 68, .int x1, .int (x2 + 0), .int x3]) (st' := []) (by decide +kernel) (fun _ => rfl)).trans ?_
        refine (R_iinc (k := 3) (n := 1) (x := x3) (v := (x3 + 1)) (loc' := [.ref 68, .int x1, .int (x2 + 0), .int (x3 + 1)]) (by decide +kernel) rfl rfl rfl).trans ?_
        refine (R_goto (off := (-31)) (t := 120) (by decide +kernel) (by decide +kernel)).trans ?_
        rfl
      · refine (R_iconst (n := 1) (v := 1) (by decide +kernel) (by decide +kernel)).trans ?_
        refine (R_goto (off := 4) (t := 146) (by decide +kernel) (by decide +kernel)).trans ?_
        refine (R_pure0 (ins := .iadd) (len := 1) (loc' := [.ref 68, .int x1, .int x2, .int x3]) (st' := [.int (x2 + 1)]) (by decide +kernel) (fun _ => rfl)).trans ?_
        refine (R_pure0 (ins := .istore_n 2) (len := 1) (loc' := [.ref 68, .int x1, .int (x2 + 1), .int x3]) (st' := []) (by decide +kernel) (fun _ => rfl)).trans ?_
        refine (R_iinc (k := 3) (n := 1) (x := x3) (v := (x3 + 1)) (loc' := [.ref 68, .int x1, .int (x2 + 1), .int (x3 + 1)]) (by decide +kernel) rfl rfl rfl).trans ?_
        refine (R_goto (off := (-31)) (t := 120) (by decide +kernel) (by decide +kernel)).trans ?_
        rfl
    · refine (R_pure0 (ins := .iload_n 1) (len := 1) (loc' := [.ref 68, .int x1, .int x2, .int x3]) (st' := [.int x1]) (by decide +kernel) (fun _ => rfl)).trans ?_
      refine (R_switch (df := 85) (lo := 0) (hi := 6) (offs := #[41, 46, 54, 59, 66, 72, 77]) (len := 41) (l0 := 0) (dt := 240) (ts := [196, 201, 209, 214, 221, 227, 232]) (by decide +kernel) (by decide +kernel)).trans ?_
      refine ite_congr rfl (fun c3 => ?_) (fun c3 => ?_)
      · refine (R_pure0 (ins := .aload_n 0) (len := 1) (loc' := [.ref 68, .int x1, .int x2, .int x3]) (st' := [.ref 68]) (by decide +kernel) (fun _ => rfl)).trans ?_
        refine (R_gi (i := 131) (ci := 10) (k := 4) (n := 33) (by decide +kernel) (by decide +kernel) (by decide) rfl).trans ?_
        exact R_ireturn (by decide +kernel) (by decide +kernel)
      · refine ite_congr rfl (fun c4 => ?_) (fun c4 => ?_)
        · refine (R_pure0 (ins := .aload_n 0) (len := 1) (loc' := [.ref 68, .int x1, .int x2, .int x3]) (st' := [.ref 68]) (by decide +kernel) (fun _ => rfl)).trans ?_
          refine (R_gr (i := 34) (ci := 10) (k := 9) (n := 33) (b := 77) (by decide +kernel) (by decide +kernel) (by decide) rfl (SH_ref (by decide +kernel))).trans ?_
          refine (R_bipush (n := 13) (v := 13) (by decide +kernel) (by decide +kernel)).trans ?_
          refine (R_iaload (kd := 100) (n := 15) (by decide +kernel) rfl (by decide) (by decide)).trans ?_
          exact R_ireturn (by decide +kernel) (by decide +kernel)
        · refine ite_congr rfl (fun c5 => ?_) (fun c5 => ?_)
          · refine (R_pure0 (ins := .aload_n 0) (len := 1) (loc' := [.ref 68, .int x1, .int x2, .int x3]) (st' := [.ref 68]) (by decide +kernel) (fun _ => rfl)).trans ?_
            refine (R_gi (i := 134) (ci := 10) (k := 10) (n := 33) (by decide +kernel) (by decide +kernel) (by decide) rfl).trans ?_
            exact R_ireturn (by decide +kernel) (by decide +kernel)
          · refine ite_congr rfl (fun c6 => ?_) (fun c6 => ?_)
            · refine (R_pure0 (ins := .aload_n 0) (len := 1) (loc' := [.ref 68, .int x1, .int x2, .int x3]) (st' := [.ref 68]) (by decide +kernel) (fun _ => rfl)).trans ?_
              refine (R_bipush (n := 6) (v := 6) (by decide +kernel) (by decide +kernel)).trans ?_
              refine (R_virt (i := 289) (f := 232) (kd := 0) (na := 1) (ml := 4) (ci := 10) (n := 33) (b := 68) (As := [.int 6]) (rest := []) (by decide +kernel) (by decide +kernel) (by decide) (by decide +kernel) rfl (by decide +kernel) rfl rfl (by decide +kernel) (Nat.le_of_ble_eq_true rfl)).trans ?_
              rfl
            · refine ite_congr rfl (fun c7 => ?_) (fun c7 => ?_)
              · refine (R_pure0 (ins := .aload_n 0) (len := 1) (loc' := [.ref 68, .int x1, .int x2, .int x3]) (st' := [.ref 68]) (by decide +kernel) (fun _ => rfl)).trans ?_
                refine (R_iconst (n := 0) (v := 0) (by decide +kernel) (by decide +kernel)).trans ?_
                refine (R_virt (i := 289) (f := 232) (kd := 0) (na := 1) (ml := 4) (ci := 10) (n := 33) (b := 68) (As := [.int 0]) (rest := []) (by decide +kernel) (by decide +kernel) (by decide) (by decide +kernel) rfl (by decide +kernel) rfl rfl (by decide +kernel) (Nat.le_of_ble_eq_true rfl)).trans ?_
                rfl
              · refine ite_congr rfl (fun c8 => ?_) (fun c8 => ?_)
                · refine (R_pure0 (ins := .aload_n 0) (len := 1) (loc' := [.ref 68, .int x1, .int x2, .int x3]) (st' := [.ref 68]) (by decide +kernel) (fun _ => rfl)).trans ?_
                  refine (R_virt (i := 200) (f := 195) (kd := 0) (na := 0) (ml := 1) (ci := 10) (n := 33) (b := 68) (As := []) (rest := []) (by decide +kernel) (by decide +kernel) (by decide) (by decide +kernel) rfl (by decide +kernel) rfl rfl (by decide +kernel) (Nat.le_of_ble_eq_true rfl)).trans ?_
                  rfl
                · refine ite_congr rfl (fun c9 => ?_) (fun c9 => ?_)
                  · refine (R_pure0 (ins := .aload_n 0) (len := 1) (loc' := [.ref 68, .int x1, .int x2, .int x3]) (st' := [.ref 68]) (by decide +kernel) (fun _ => rfl)).trans ?_
                    refine (R_gr (i := 34) (ci := 10) (k := 9) (n := 33) (b := 77) (by decide +kernel) (by decide +kernel) (by decide) rfl (SH_ref (by decide +kernel))).trans ?_
                    refine (R_bipush (n := 14) (v := 14) (by decide +kernel) (by decide +kernel)).trans ?_
                    refine (R_iaload (kd := 100) (n := 15) (by decide +kernel) rfl (by decide) (by decide)).trans ?_
                    exact R_ireturn (by decide +kernel) (by decide +kernel)
                  · refine (R_pure0 (ins := .iload_n 2) (len := 1) (loc' := [.ref 68, .int x1, .int x2, .int x3]) (st' := [.int x2]) (by decide +kernel) (fun _ => rfl)).trans ?_
                    exact R_ireturn (by decide +kernel) (by decide +kernel)
  · refine (R_pure0 (ins := .iload_n 1) (len := 1) (loc' := [.ref 68, .int x1, .int x2, .int x3]) (st' := [.int x1]) (by decide +kernel) (fun _ => rfl)).trans ?_
    refine (R_switch (df := 85) (lo := 0) (hi := 6) (offs := #[41, 46, 54, 59, 66, 72, 77]) (len := 41) (l0 := 0) (dt := 240) (ts := [196, 201, 209, 214, 221, 227, 232]) (by decide +kernel) (by decide +kernel)).trans ?_
    refine ite_congr rfl (fun c10 => ?_) (fun c10 => ?_)
    · refine (R_pure0 (ins := .aload_n 0) (len := 1) (loc' := [.ref 68, .int x1, .int x2, .int x3]) (st' := [.ref 68]) (by decide +kernel) (fun _ => rfl)).trans ?_
      refine (R_gi (i := 131) (ci := 10) (k := 4) (n := 33) (by decide +kernel) (by decide +kernel) (by decide) rfl).trans ?_
      exact R_ireturn (by decide +kernel) (by decide +kernel)
    · refine ite_congr rfl (fun c11 => ?_) (fun c11 => ?_)
      · refine (R_pure0 (ins := .aload_n 0) (len := 1) (loc' := [.ref 68, .int x1, .int x2, .int x3]) (st' := [.ref 68]) (by decide +kernel) (fun _ => rfl)).trans ?_
        refine (R_gr (i := 34) (ci := 10) (k := 9) (n := 33) (b := 77) (by decide +kernel) (by decide +kernel) (by decide) rfl (SH_ref (by decide +kernel))).trans ?_
        refine (R_bipush (n := 13) (v := 13) (by decide +kernel) (by decide +kernel)).trans ?_
        refine (R_iaload (kd := 100) (n := 15) (by decide +kernel) rfl (by decide) (by decide)).trans ?_
        exact R_ireturn (by decide +kernel) (by decide +kernel)
      · refine ite_congr rfl (fun c12 => ?_) (fun c12 => ?_)
        · refine (R_pure0 (ins := .aload_n 0) (len := 1) (loc' := [.ref 68, .int x1, .int x2, .int x3]) (st' := [.ref 68]) (by decide +kernel) (fun _ => rfl)).trans ?_
          refine (R_gi (i := 134) (ci := 10) (k := 10) (n := 33) (by decide +kernel) (by decide +kernel) (by decide) rfl).trans ?_
          exact R_ireturn (by decide +kernel) (by decide +kernel)
        · refine ite_congr rfl (fun c13 => ?_) (fun c13 => ?_)
          · refine (R_pure0 (ins := .aload_n 0) (len := 1) (loc' := [.ref 68, .int x1, .int x2, .int x3]) (st' := [.ref 68]) (by decide +kernel) (fun _ => rfl)).trans ?_
            refine (R_bipush (n := 6) (v := 6) (by decide +kernel) (by decide +kernel)).trans ?_
            refine (R_virt (i := 289) (f := 232) (kd := 0) (na := 1) (ml := 4) (ci := 10) (n := 33) (b := 68) (As := [.int 6]) (rest := []) (by decide +kernel) (by decide +kernel) (by decide) (by decide +kernel) rfl (by decide +kernel) rfl rfl (by decide +kernel) (Nat.le_of_ble_eq_true rfl)).trans ?_
            rfl
          · refine ite_congr rfl (fun c14 => ?_) (fun c14 => ?_)
            · refine (R_pure0 (ins := .aload_n 0) (len := 1) (loc' := [.ref 68, .int x1, .int x2, .int x3]) (st' := [.ref 68]) (by decide +kernel) (fun _ => rfl)).trans ?_
              refine (R_iconst (n := 0) (v := 0) (by decide +kernel) (by decide +kernel)).trans ?_
              refine (R_virt (i := 289) (f := 232) (kd := 0) (na := 1) (ml := 4) (ci := 10) (n := 33) (b := 68) (As := [.int 0]) (rest := []) (by decide +kernel) (by decide +kernel) (by decide) (by decide +kernel) rfl (by decide +kernel) rfl rfl (by decide +kernel) (Nat.le_of_ble_eq_true rfl)).trans ?_
              rfl
            · refine ite_congr rfl (fun c15 => ?_) (fun c15 => ?_)
              · refine (R_pure0 (ins := .aload_n 0) (len := 1) (loc' := [.ref 68, .int x1, .int x2, .int x3]) (st' := [.ref 68]) (by decide +kernel) (fun _ => rfl)).trans ?_
                refine (R_virt (i := 200) (f := 195) (kd := 0) (na := 0) (ml := 1) (ci := 10) (n := 33) (b := 68) (As := []) (rest := []) (by decide +kernel) (by decide +kernel) (by decide) (by decide +kernel) rfl (by decide +kernel) rfl rfl (by decide +kernel) (Nat.le_of_ble_eq_true rfl)).trans ?_
                rfl
              · refine ite_congr rfl (fun c16 => ?_) (fun c16 => ?_)
                · refine (R_pure0 (ins := .aload_n 0) (len := 1) (loc' := [.ref 68, .int x1, .int x2, .int x3]) (st' := [.ref 68]) (by decide +kernel) (fun _ => rfl)).trans ?_
                  refine (R_gr (i := 34) (ci := 10) (k := 9) (n := 33) (b := 77) (by decide +kernel) (by decide +kernel) (by decide) rfl (SH_ref (by decide +kernel))).trans ?_
                  refine (R_bipush (n := 14) (v := 14) (by decide +kernel) (by decide +kernel)).trans ?_
                  refine (R_iaload (kd := 100) (n := 15) (by decide +kernel) rfl (by decide) (by decide)).trans ?_
                  exact R_ireturn (by decide +kernel) (by decide +kernel)
                · refine (R_pure0 (ins := .iload_n 2) (len := 1) (loc' := [.ref 68, .int x1, .int x2, .int x3]) (st' := [.int x2]) (by decide +kernel) (fun _ => rfl)).trans ?_
                  exact R_ireturn (by decide +kernel) (by decide +kernel)
theorem s233_220 {L : Nat} {mi : Nat → Nat → Int32} {ml : Nat → Nat → Int64} {d : Nat} {Q : Option Value → xM → Prop} {x1 x2 x3 y : Int32} : X 233 220 [.ref 68, .int x1, .int x2, .int x3] [.int y] (SH L, mi, ml, MR) d Q =
    Q (some (.int y)) (SH L, mi, ml, MR) := by
  exact R_ireturn (by decide +kernel) (by decide +kernel)
theorem s233_226 {L : Nat} {mi : Nat → Nat → Int32} {ml : Nat → Nat → Int64} {d : Nat} {Q : Option Value → xM → Prop} {x1 x2 x3 y : Int32} : X 233 226 [.ref 68, .int x1, .int x2, .int x3] [.int y] (SH L, mi, ml, MR) d Q =
    Q (some (.int y)) (SH L, mi, ml, MR) := by
  exact R_ireturn (by decide +kernel) (by decide +kernel)
theorem s233_231 {L : Nat} {mi : Nat → Nat → Int32} {ml : Nat → Nat → Int64} {d : Nat} {Q : Option Value → xM → Prop} {x1 x2 x3 y : Int32} : X 233 231 [.ref 68, .int x1, .int x2, .int x3] [.int y] (SH L, mi, ml, MR) d Q =
    Q (some (.int y)) (SH L, mi, ml, MR) := by
  exact R_ireturn (by decide +kernel) (by decide +kernel)
theorem s234 {L : Nat} {mi : Nat → Nat → Int32} {ml : Nat → Nat → Int64} {d : Nat} {Q : Option Value → xM → Prop} {x1 : Int32} : Xm 234 [.ref 68, .int x1] (SH L, mi, ml, MR) (d + 1) Q =
    Xm 149 [.long x1.toInt64, .long 0, .long 10] (SH L, mi, ml, MR) d (fun v μ' => X 234 9 [.ref 68, .int x1] (v.toList ++ []) μ' (d + 1) Q) := by
  rw [Xm_ent (n := 2) (loc := [.ref 68, .int x1]) (by decide +kernel) rfl]
  refine (R_pure0 (ins := .iload_n 1) (len := 1) (loc' := [.ref 68, .int x1]) (st' := [.int x1]) (by decide +kernel) (fun _ => rfl)).trans ?_
  refine (R_pure0 (ins := .i2l) (len := 1) (loc' := [.ref 68, .int x1]) (st' := [.long x1.toInt64]) (by decide +kernel) (fun _ => rfl)).trans ?_
  refine (R_lconst (n := 0) (v := 0) (by decide +kernel) (by decide +kernel)).trans ?_
  refine (R_ldc2 (i := 292) (v := 10) (by decide +kernel) (by decide +kernel)).trans ?_
  refine (R_static (i := 87) (f := 149) (kd := 2) (na := 3) (ml := 6) (As := [.long x1.toInt64, .long 0, .long 10]) (rest := []) (by decide +kernel) (by decide +kernel) (by decide) (by decide +kernel) rfl rfl (by decide +kernel) (Nat.le_of_ble_eq_true rfl)).trans ?_
  rfl
theorem s234_9 {L : Nat} {mi : Nat → Nat → Int32} {ml : Nat → Nat → Int64} {d : Nat} {Q : Option Value → xM → Prop} {x1 y : Int32} : X 234 9 [.ref 68, .int x1] [.int y] (SH L, mi, ml, MR) (d + 1) Q =
    if (y = 0) then (Q (some (.int (-1))) (SH L, mi, ml, MR)) else (Xm 233 [.ref 68, .int x1] (SH L, mi, ml, MR) d (fun v μ' => X 234 17 [.ref 68, .int x1] (v.toList ++ []) μ' (d + 1) Q)) := by
  refine (R_if_eq (off := 11) (t := 20) (by decide +kernel) (by decide +kernel)).trans (ite_congr rfl (fun c0 => ?_) (fun c0 => ?_))
  · refine (R_iconst (n := (-1)) (v := (-1)) (by decide +kernel) (by decide +kernel)).trans ?_
    exact R_ireturn (by decide +kernel) (by decide +kernel)
  · refine (R_pure0 (ins := .aload_n 0) (len := 1) (loc' := [.ref 68, .int x1]) (st' := [.ref 68]) (by decide +kernel) (fun _ => rfl)).trans ?_
    refine (R_pure0 (ins := .iload_n 1) (len := 1) (loc' := [.ref 68, .int x1]) (st' := [.int x1, .ref 68]) (by decide +kernel) (fun _ => rfl)).trans ?_
    refine (R_virt (i := 294) (f := 233) (kd := 0) (na := 1) (ml := 4) (ci := 10) (n := 33) (b := 68) (As := [.int x1]) (rest := []) (by decide +kernel) (by decide +kernel) (by decide) (by decide +kernel) rfl (by decide +kernel) rfl rfl (by decide +kernel) (Nat.le_of_ble_eq_true rfl)).trans ?_
    rfl
theorem s234_17 {L : Nat} {mi : Nat → Nat → Int32} {ml : Nat → Nat → Int64} {d : Nat} {Q : Option Value → xM → Prop} {x1 y : Int32} : X 234 17 [.ref 68, .int x1] [.int y] (SH L, mi, ml, MR) d Q =
    Q (some (.int y)) (SH L, mi, ml, MR) := by
  refine (R_goto (off := 4) (t := 21) (by decide +kernel) (by decide +kernel)).trans ?_
  exact R_ireturn (by decide +kernel) (by decide +kernel)
theorem s235 {L : Nat} {mi : Nat → Nat → Int32} {ml : Nat → Nat → Int64} {d : Nat} {Q : Option Value → xM → Prop} : Xm 235 [.ref 68] (SH L, mi, ml, MR) d Q =
    Q (some (.int (mi 68 17))) (SH L, mi, ml, MR) := by
  rw [Xm_ent (n := 1) (loc := [.ref 68]) (by decide +kernel) rfl]
  refine (R_pure0 (ins := .aload_n 0) (len := 1) (loc' := [.ref 68]) (st' := [.ref 68]) (by decide +kernel) (fun _ => rfl)).trans ?_
  refine (R_gi (i := 78) (ci := 10) (k := 17) (n := 33) (by decide +kernel) (by decide +kernel) (by decide) rfl).trans ?_
  exact R_ireturn (by decide +kernel) (by decide +kernel)
theorem s236 {L : Nat} {mi : Nat → Nat → Int32} {ml : Nat → Nat → Int64} {d : Nat} {Q : Option Value → xM → Prop} {x1 : Int32} : Xm 236 [.ref 68, .int x1] (SH L, mi, ml, MR) (d + 1) Q =
    Xm 149 [.long x1.toInt64, .long 1, .long 5] (SH L, mi, ml, MR) d (fun v μ' => X 236 9 [.ref 68, .int x1] (v.toList ++ []) μ' (d + 1) Q) := by
  rw [Xm_ent (n := 2) (loc := [.ref 68, .int x1]) (by decide +kernel) rfl]
  refine (R_pure0 (ins := .iload_n 1) (len := 1) (loc' := [.ref 68, .int x1]) (st' := [.int x1]) (by decide +kernel) (fun _ => rfl)).trans ?_
  refine (R_pure0 (ins := .i2l) (len := 1) (loc' := [.ref 68, .int x1]) (st' := [.long x1.toInt64]) (by decide +kernel) (fun _ => rfl)).trans ?_
  refine (R_lconst (n := 1) (v := 1) (by decide +kernel) (by decide +kernel)).trans ?_
  refine (R_ldc2 (i := 85) (v := 5) (by decide +kernel) (by decide +kernel)).trans ?_
  refine (R_static (i := 87) (f := 149) (kd := 2) (na := 3) (ml := 6) (As := [.long x1.toInt64, .long 1, .long 5]) (rest := []) (by decide +kernel) (by decide +kernel) (by decide) (by decide +kernel) rfl rfl (by decide +kernel) (Nat.le_of_ble_eq_true rfl)).trans ?_
  rfl
theorem s236_9 {L : Nat} {mi : Nat → Nat → Int32} {ml : Nat → Nat → Int64} {d : Nat} {Q : Option Value → xM → Prop} {x1 y : Int32} (h1 : ¬ (y = 0) → xin x1 6 = true) : X 236 9 [.ref 68, .int x1] [.int y] (SH L, mi, ml, MR) d Q =
    if (y = 0) then (Q (some (.int (-1))) (SH L, mi, ml, MR)) else (Q (some (.int (mi 81 x1.toNatClampNeg))) (SH L, mi, ml, MR)) := by
  refine (R_if_eq (off := 12) (t := 21) (by decide +kernel) (by decide +kernel)).trans (ite_congr rfl (fun c0 => ?_) (fun c0 => ?_))
  · refine (R_iconst (n := (-1)) (v := (-1)) (by decide +kernel) (by decide +kernel)).trans ?_
    exact R_ireturn (by decide +kernel) (by decide +kernel)
  · refine (R_pure0 (ins := .aload_n 0) (len := 1) (loc' := [.ref 68, .int x1]) (st' := [.ref 68]) (by decide +kernel) (fun _ => rfl)).trans ?_
    refine (R_gr (i := 51) (ci := 10) (k := 18) (n := 33) (b := 81) (by decide +kernel) (by decide +kernel) (by decide) rfl (SH_ref (by decide +kernel))).trans ?_
    refine (R_pure0 (ins := .iload_n 1) (len := 1) (loc' := [.ref 68, .int x1]) (st' := [.int x1, .ref 81]) (by decide +kernel) (fun _ => rfl)).trans ?_
    refine (R_iaload (kd := 100) (n := 6) (by decide +kernel) rfl (by decide) (h1 c0)).trans ?_
    refine (R_goto (off := 4) (t := 22) (by decide +kernel) (by decide +kernel)).trans ?_
    exact R_ireturn (by decide +kernel) (by decide +kernel)
theorem s237 {L : Nat} {mi : Nat → Nat → Int32} {ml : Nat → Nat → Int64} {d : Nat} {Q : Option Value → xM → Prop} : Xm 237 [.ref 68] (SH L, mi, ml, MR) d Q =
    X 237 6 [.ref 68, .long 17, xmk, .int 0, xmk] [] (SH L, mi, ml, MR) d Q := by
  rw [Xm_ent (n := 5) (loc := [.ref 68, xmk, xmk, xmk, xmk]) (by decide +kernel) rfl]
  refine (R_ldc2 (i := 297) (v := 17) (by decide +kernel) (by decide +kernel)).trans ?_
  refine (R_pure0 (ins := .lstore_n 1) (len := 1) (loc' := [.ref 68, .long 17, xmk, xmk, xmk]) (st' := []) (by decide +kernel) (fun _ => rfl)).trans ?_
  refine (R_iconst (n := 0) (v := 0) (by decide +kernel) (by decide +kernel)).trans ?_
  refine (R_pure0 (ins := .istore_n 3) (len := 1) (loc' := [.ref 68, .long 17, xmk, .int 0, xmk]) (st' := []) (by decide +kernel) (fun _ => rfl)).trans ?_
  rfl
theorem s237_6 {L : Nat} {mi : Nat → Nat → Int32} {ml : Nat → Nat → Int64} {d : Nat} {Q : Option Value → xM → Prop} {x3 : Int32} {x1 : Int64} : X 237 6 [.ref 68, .long x1, xmk, .int x3, xmk] [] (SH L, mi, ml, MR) (d + 1) Q =
    if (x3 < 11) then (Xm 233 [.ref 68, .int x3] (SH L, mi, ml, MR) d (fun v μ' => X 237 22 [.ref 68, .long x1, xmk, .int x3, xmk] (v.toList ++ [.long (31 * x1)]) μ' (d + 1) Q)) else (X 237 33 [.ref 68, .long x1, xmk, .int 0, xmk] [] (SH L, mi, ml, MR) (d + 1) Q) := by
  refine (R_pure0 (ins := .iload_n 3) (len := 1) (loc' := [.ref 68, .long x1, xmk, .int x3, xmk]) (st' := [.int x3]) (by decide +kernel) (fun _ => rfl)).trans ?_
  refine (R_bipush (n := 11) (v := 11) (by decide +kernel) (by decide +kernel)).trans ?_
  refine (R_icmp_ge (off := 22) (t := 31) (by decide +kernel) (by decide +kernel)).trans (ite_congr rfl (fun c0 => ?_) (fun c0 => ?_))
  · refine (R_ldc2 (i := 299) (v := 31) (by decide +kernel) (by decide +kernel)).trans ?_
    refine (R_pure0 (ins := .lload_n 1) (len := 1) (loc' := [.ref 68, .long x1, xmk, .int x3, xmk]) (st' := [.long x1, .long 31]) (by decide +kernel) (fun _ => rfl)).trans ?_
    refine (R_pure0 (ins := .lmul) (len := 1) (loc' := [.ref 68, .long x1, xmk, .int x3, xmk]) (st' := [.long (31 * x1)]) (by decide +kernel) (fun _ => rfl)).trans ?_
    refine (R_pure0 (ins := .aload_n 0) (len := 1) (loc' := [.ref 68, .long x1, xmk, .int x3, xmk]) (st' := [.ref 68, .long (31 * x1)]) (by decide +kernel) (fun _ => rfl)).trans ?_
    refine (R_pure0 (ins := .iload_n 3) (len := 1) (loc' := [.ref 68, .long x1, xmk, .int x3, xmk]) (st' := [.int x3, .ref 68, .long (31 * x1)]) (by decide +kernel) (fun _ => rfl)).trans ?_
    refine (R_virt (i := 294) (f := 233) (kd := 0) (na := 1) (ml := 4) (ci := 10) (n := 33) (b := 68) (As := [.int x3]) (rest := [.long (31 * x1)]) (by decide +kernel) (by decide +kernel) (by decide) (by decide +kernel) rfl (by decide +kernel) rfl rfl (by decide +kernel) (Nat.le_of_ble_eq_true rfl)).trans ?_
    rfl
  · refine (R_iconst (n := 0) (v := 0) (by decide +kernel) (by decide +kernel)).trans ?_
    refine (R_pure0 (ins := .istore_n 3) (len := 1) (loc' := [.ref 68, .long x1, xmk, .int 0, xmk]) (st' := []) (by decide +kernel) (fun _ => rfl)).trans ?_
    rfl
theorem s237_22 {L : Nat} {mi : Nat → Nat → Int32} {ml : Nat → Nat → Int64} {d : Nat} {Q : Option Value → xM → Prop} {x3 y : Int32} {x1 z0 : Int64} : X 237 22 [.ref 68, .long x1, xmk, .int x3, xmk] [.int y, .long z0] (SH L, mi, ml, MR) d Q =
    X 237 6 [.ref 68, .long (z0 + y.toInt64), xmk, .int (x3 + 1), xmk] [] (SH L, mi, ml, MR) d Q := by
  refine (R_pure0 (ins := .i2l) (len := 1) (loc' := [.ref 68, .long x1, xmk, .int x3, xmk]) (st' := [.long y.toInt64, .long z0]) (by decide +kernel) (fun _ => rfl)).trans ?_
  refine (R_pure0 (ins := .ladd) (len := 1) (loc' := [.ref 68, .long x1, xmk, .int x3, xmk]) (st' := [.long (z0 + y.toInt64)]) (by decide +kernel) (fun _ => rfl)).trans ?_
  refine (R_pure0 (ins := .lstore_n 1) (len := 1) (loc' := [.ref 68, .long (z0 + y.toInt64), xmk, .int x3, xmk]) (st' := []) (by decide +kernel) (fun _ => rfl)).trans ?_
  refine (R_iinc (k := 3) (n := 1) (x := x3) (v := (x3 + 1)) (loc' := [.ref 68, .long (z0 + y.toInt64), xmk, .int (x3 + 1), xmk]) (by decide +kernel) rfl rfl rfl).trans ?_
  refine (R_goto (off := (-22)) (t := 6) (by decide +kernel) (by decide +kernel)).trans ?_
  rfl
theorem s237_33 {L : Nat} {mi : Nat → Nat → Int32} {ml : Nat → Nat → Int64} {d : Nat} {Q : Option Value → xM → Prop} {x3 : Int32} {x1 : Int64} : X 237 33 [.ref 68, .long x1, xmk, .int x3, xmk] [] (SH L, mi, ml, MR) d Q =
    if (x3 < (mi 68 4)) then (X 237 44 [.ref 68, .long x1, xmk, .int x3, .int 0] [] (SH L, mi, ml, MR) d Q) else (X 237 80 [.ref 68, .long x1, xmk, .int 0, xmk] [] (SH L, mi, ml, MR) d Q) := by
  refine (R_pure0 (ins := .iload_n 3) (len := 1) (loc' := [.ref 68, .long x1, xmk, .int x3, xmk]) (st' := [.int x3]) (by decide +kernel) (fun _ => rfl)).trans ?_
  refine (R_pure0 (ins := .aload_n 0) (len := 1) (loc' := [.ref 68, .long x1, xmk, .int x3, xmk]) (st' := [.ref 68, .int x3]) (by decide +kernel) (fun _ => rfl)).trans ?_
  refine (R_gi (i := 131) (ci := 10) (k := 4) (n := 33) (by decide +kernel) (by decide +kernel) (by decide) rfl).trans ?_
  refine (R_icmp_ge (off := 40) (t := 78) (by decide +kernel) (by decide +kernel)).trans (ite_congr rfl (fun c0 => ?_) (fun c0 => ?_))
  · refine (R_iconst (n := 0) (v := 0) (by decide +kernel) (by decide +kernel)).trans ?_
    refine (R_pure0 (ins := .istore 4) (len := 2) (loc' := [.ref 68, .long x1, xmk, .int x3, .int 0]) (st' := []) (by decide +kernel) (fun _ => rfl)).trans ?_
    rfl
  · refine (R_iconst (n := 0) (v := 0) (by decide +kernel) (by decide +kernel)).trans ?_
    refine (R_pure0 (ins := .istore_n 3) (len := 1) (loc' := [.ref 68, .long x1, xmk, .int 0, xmk]) (st' := []) (by decide +kernel) (fun _ => rfl)).trans ?_
    rfl
theorem s237_44 {L : Nat} {mi : Nat → Nat → Int32} {ml : Nat → Nat → Int64} {d : Nat} {Q : Option Value → xM → Prop} {x3 x4 : Int32} {x1 : Int64} : X 237 44 [.ref 68, .long x1, xmk, .int x3, .int x4] [] (SH L, mi, ml, MR) (d + 1) Q =
    if (x4 < 8) then (Xm 184 [.ref 68, .int x3, .int x4] (SH L, mi, ml, MR) d (fun v μ' => X 237 63 [.ref 68, .long x1, xmk, .int x3, .int x4] (v.toList ++ [.long (31 * x1)]) μ' (d + 1) Q)) else (X 237 33 [.ref 68, .long x1, xmk, .int (x3 + 1), .int x4] [] (SH L, mi, ml, MR) (d + 1) Q) := by
  refine (R_pure0 (ins := .iload 4) (len := 2) (loc' := [.ref 68, .long x1, xmk, .int x3, .int x4]) (st' := [.int x4]) (by decide +kernel) (fun _ => rfl)).trans ?_
  refine (R_bipush (n := 8) (v := 8) (by decide +kernel) (by decide +kernel)).trans ?_
  refine (R_icmp_ge (off := 24) (t := 72) (by decide +kernel) (by decide +kernel)).trans (ite_congr rfl (fun c0 => ?_) (fun c0 => ?_))
  · refine (R_ldc2 (i := 299) (v := 31) (by decide +kernel) (by decide +kernel)).trans ?_
    refine (R_pure0 (ins := .lload_n 1) (len := 1) (loc' := [.ref 68, .long x1, xmk, .int x3, .int x4]) (st' := [.long x1, .long 31]) (by decide +kernel) (fun _ => rfl)).trans ?_
    refine (R_pure0 (ins := .lmul) (len := 1) (loc' := [.ref 68, .long x1, xmk, .int x3, .int x4]) (st' := [.long (31 * x1)]) (by decide +kernel) (fun _ => rfl)).trans ?_
    refine (R_pure0 (ins := .aload_n 0) (len := 1) (loc' := [.ref 68, .long x1, xmk, .int x3, .int x4]) (st' := [.ref 68, .long (31 * x1)]) (by decide +kernel) (fun _ => rfl)).trans ?_
    refine (R_pure0 (ins := .iload_n 3) (len := 1) (loc' := [.ref 68, .long x1, xmk, .int x3, .int x4]) (st' := [.int x3, .ref 68, .long (31 * x1)]) (by decide +kernel) (fun _ => rfl)).trans ?_
    refine (R_pure0 (ins := .iload 4) (len := 2) (loc' := [.ref 68, .long x1, xmk, .int x3, .int x4]) (st' := [.int x4, .int x3, .ref 68, .long (31 * x1)]) (by decide +kernel) (fun _ => rfl)).trans ?_
    refine (R_virt (i := 174) (f := 184) (kd := 0) (na := 2) (ml := 3) (ci := 10) (n := 33) (b := 68) (As := [.int x3, .int x4]) (rest := [.long (31 * x1)]) (by decide +kernel) (by decide +kernel) (by decide) (by decide +kernel) rfl (by decide +kernel) rfl rfl (by decide +kernel) (Nat.le_of_ble_eq_true rfl)).trans ?_
    rfl
  · refine (R_iinc (k := 3) (n := 1) (x := x3) (v := (x3 + 1)) (loc' := [.ref 68, .long x1, xmk, .int (x3 + 1), .int x4]) (by decide +kernel) rfl rfl rfl).trans ?_
    refine (R_goto (off := (-42)) (t := 33) (by decide +kernel) (by decide +kernel)).trans ?_
    rfl
theorem s237_80 {L : Nat} {mi : Nat → Nat → Int32} {ml : Nat → Nat → Int64} {d : Nat} {Q : Option Value → xM → Prop} {x3 : Int32} {x1 : Int64} (h1 : (x3 < 3) → xin x3 3 = true) (h2 : (x3 < 3) → ¬ ((mi 80 x3.toNatClampNeg) = 0) → xin ((616 * x3) + 615) 1848 = true) : X 237 80 [.ref 68, .long x1, xmk, .int x3, xmk] [] (SH L, mi, ml, MR) d Q =
    if (x3 < 3) then (if ((mi 80 x3.toNatClampNeg) = 0) then (X 237 80 [.ref 68, .long ((31 * x1) + ((-1) : Int32).toInt64), xmk, .int (x3 + 1), xmk] [] (SH L, mi, ml, MR) d Q) else (X 237 80 [.ref 68, .long ((31 * x1) + (mi 79 ((616 * x3) + 615).toNatClampNeg).toInt64), xmk, .int (x3 + 1), xmk] [] (SH L, mi, ml, MR) d Q)) else (X 237 128 [.ref 68, .long x1, xmk, .int 0, xmk] [] (SH L, mi, ml, MR) d Q) := by
  refine (R_pure0 (ins := .iload_n 3) (len := 1) (loc' := [.ref 68, .long x1, xmk, .int x3, xmk]) (st' := [.int x3]) (by decide +kernel) (fun _ => rfl)).trans ?_
  refine (R_iconst (n := 3) (v := 3) (by decide +kernel) (by decide +kernel)).trans ?_
  refine (R_icmp_ge (off := 44) (t := 126) (by decide +kernel) (by decide +kernel)).trans (ite_congr rfl (fun c0 => ?_) (fun c0 => ?_))
  · refine (R_ldc2 (i := 299) (v := 31) (by decide +kernel) (by decide +kernel)).trans ?_
    refine (R_pure0 (ins := .lload_n 1) (len := 1) (loc' := [.ref 68, .long x1, xmk, .int x3, xmk]) (st' := [.long x1, .long 31]) (by decide +kernel) (fun _ => rfl)).trans ?_
    refine (R_pure0 (ins := .lmul) (len := 1) (loc' := [.ref 68, .long x1, xmk, .int x3, xmk]) (st' := [.long (31 * x1)]) (by decide +kernel) (fun _ => rfl)).trans ?_
    refine (R_pure0 (ins := .aload_n 0) (len := 1) (loc' := [.ref 68, .long x1, xmk, .int x3, xmk]) (st' := [.ref 68, .long (31 * x1)]) (by decide +kernel) (fun _ => rfl)).trans ?_
    refine (R_gr (i := 43) (ci := 10) (k := 13) (n := 33) (b := 80) (by decide +kernel) (by decide +kernel) (by decide) rfl (SH_ref (by decide +kernel))).trans ?_
    refine (R_pure0 (ins := .iload_n 3) (len := 1) (loc' := [.ref 68, .long x1, xmk, .int x3, xmk]) (st' := [.int x3, .ref 80, .long (31 * x1)]) (by decide +kernel) (fun _ => rfl)).trans ?_
    refine (R_baload (n := 3) (by decide +kernel) rfl (h1 c0)).trans ?_
    refine (R_if_eq (off := 20) (t := 116) (by decide +kernel) (by decide +kernel)).trans (ite_congr rfl (fun c1 => ?_) (fun c1 => ?_))
    · refine (R_iconst (n := (-1)) (v := (-1)) (by decide +kernel) (by decide +kernel)).trans ?_
      refine (R_pure0 (ins := .i2l) (len := 1) (loc' := [.ref 68, .long x1, xmk, .int x3, xmk]) (st' := [.long ((-1) : Int32).toInt64, .long (31 * x1)]) (by decide +kernel) (fun _ => rfl)).trans ?_
      refine (R_pure0 (ins := .ladd) (len := 1) (loc' := [.ref 68, .long x1, xmk, .int x3, xmk]) (st' := [.long ((31 * x1) + ((-1) : Int32).toInt64)]) (by decide +kernel) (fun _ => rfl)).trans ?_
      refine (R_pure0 (ins := .lstore_n 1) (len := 1) (loc' := [.ref 68, .long ((31 * x1) + ((-1) : Int32).toInt64), xmk, .int x3, xmk]) (st' := []) (by decide +kernel) (fun _ => rfl)).trans ?_
      refine (R_iinc (k := 3) (n := 1) (x := x3) (v := (x3 + 1)) (loc' := [.ref 68, .long ((31 * x1) + ((-1) : Int32).toInt64), xmk, .int (x3 + 1), xmk]) (by decide +kernel) rfl rfl rfl).trans ?_
      refine (R_goto (off := (-43)) (t := 80) (by decide +kernel) (by decide +kernel)).trans ?_
      rfl
    · refine (R_pure0 (ins := .aload_n 0) (len := 1) (loc' := [.ref 68, .long x1, xmk, .int x3, xmk]) (st' := [.ref 68, .long (31 * x1)]) (by decide +kernel) (fun _ => rfl)).trans ?_
      refine (R_gr (i := 40) (ci := 10) (k := 12) (n := 33) (b := 79) (by decide +kernel) (by decide +kernel) (by decide) rfl (SH_ref (by decide +kernel))).trans ?_
      refine (R_sipush (n := 616) (v := 616) (by decide +kernel) (by decide +kernel)).trans ?_
      refine (R_pure0 (ins := .iload_n 3) (len := 1) (loc' := [.ref 68, .long x1, xmk, .int x3, xmk]) (st' := [.int x3, .int 616, .ref 79, .long (31 * x1)]) (by decide +kernel) (fun _ => rfl)).trans ?_
      refine (R_pure0 (ins := .imul) (len := 1) (loc' := [.ref 68, .long x1, xmk, .int x3, xmk]) (st' := [.int (616 * x3), .ref 79, .long (31 * x1)]) (by decide +kernel) (fun _ => rfl)).trans ?_
      refine (R_sipush (n := 615) (v := 615) (by decide +kernel) (by decide +kernel)).trans ?_
      refine (R_pure0 (ins := .iadd) (len := 1) (loc' := [.ref 68, .long x1, xmk, .int x3, xmk]) (st' := [.int ((616 * x3) + 615), .ref 79, .long (31 * x1)]) (by decide +kernel) (fun _ => rfl)).trans ?_
      refine (R_iaload (kd := 100) (n := 1848) (by decide +kernel) rfl (by decide) (h2 c0 c1)).trans ?_
      refine (R_goto (off := 4) (t := 117) (by decide +kernel) (by decide +kernel)).trans ?_
      refine (R_pure0 (ins := .i2l) (len := 1) (loc' := [.ref 68, .long x1, xmk, .int x3, xmk]) (st' := [.long (mi 79 ((616 * x3) + 615).toNatClampNeg).toInt64, .long (31 * x1)]) (by decide +kernel) (fun _ => rfl)).trans ?_
      refine (R_pure0 (ins := .ladd) (len := 1) (loc' := [.ref 68, .long x1, xmk, .int x3, xmk]) (st' := [.long ((31 * x1) + (mi 79 ((616 * x3) + 615).toNatClampNeg).toInt64)]) (by decide +kernel) (fun _ => rfl)).trans ?_
      refine (R_pure0 (ins := .lstore_n 1) (len := 1) (loc' := [.ref 68, .long ((31 * x1) + (mi 79 ((616 * x3) + 615).toNatClampNeg).toInt64), xmk, .int x3, xmk]) (st' := []) (by decide +kernel) (fun _ => rfl)).trans ?_
      refine (R_iinc (k := 3) (n := 1) (x := x3) (v := (x3 + 1)) (loc' := [.ref 68, .long ((31 * x1) + (mi 79 ((616 * x3) + 615).toNatClampNeg).toInt64), xmk, .int (x3 + 1), xmk]) (by decide +kernel) rfl rfl rfl).trans ?_
      refine (R_goto (off := (-43)) (t := 80) (by decide +kernel) (by decide +kernel)).trans ?_
      rfl
  · refine (R_iconst (n := 0) (v := 0) (by decide +kernel) (by decide +kernel)).trans ?_
    refine (R_pure0 (ins := .istore_n 3) (len := 1) (loc' := [.ref 68, .long x1, xmk, .int 0, xmk]) (st' := []) (by decide +kernel) (fun _ => rfl)).trans ?_
    rfl
theorem s237_63 {L : Nat} {mi : Nat → Nat → Int32} {ml : Nat → Nat → Int64} {d : Nat} {Q : Option Value → xM → Prop} {x3 x4 y : Int32} {x1 z0 : Int64} : X 237 63 [.ref 68, .long x1, xmk, .int x3, .int x4] [.int y, .long z0] (SH L, mi, ml, MR) d Q =
    X 237 44 [.ref 68, .long (z0 + y.toInt64), xmk, .int x3, .int (x4 + 1)] [] (SH L, mi, ml, MR) d Q := by
  refine (R_pure0 (ins := .i2l) (len := 1) (loc' := [.ref 68, .long x1, xmk, .int x3, .int x4]) (st' := [.long y.toInt64, .long z0]) (by decide +kernel) (fun _ => rfl)).trans ?_
  refine (R_pure0 (ins := .ladd) (len := 1) (loc' := [.ref 68, .long x1, xmk, .int x3, .int x4]) (st' := [.long (z0 + y.toInt64)]) (by decide +kernel) (fun _ => rfl)).trans ?_
  refine (R_pure0 (ins := .lstore_n 1) (len := 1) (loc' := [.ref 68, .long (z0 + y.toInt64), xmk, .int x3, .int x4]) (st' := []) (by decide +kernel) (fun _ => rfl)).trans ?_
  refine (R_iinc (k := 4) (n := 1) (x := x4) (v := (x4 + 1)) (loc' := [.ref 68, .long (z0 + y.toInt64), xmk, .int x3, .int (x4 + 1)]) (by decide +kernel) rfl rfl rfl).trans ?_
  refine (R_goto (off := (-25)) (t := 44) (by decide +kernel) (by decide +kernel)).trans ?_
  rfl
theorem s237_33v2 {L : Nat} {mi : Nat → Nat → Int32} {ml : Nat → Nat → Int64} {d : Nat} {Q : Option Value → xM → Prop} {x3 x4 : Int32} {x1 : Int64} : X 237 33 [.ref 68, .long x1, xmk, .int x3, .int x4] [] (SH L, mi, ml, MR) d Q =
    if (x3 < (mi 68 4)) then (X 237 44 [.ref 68, .long x1, xmk, .int x3, .int 0] [] (SH L, mi, ml, MR) d Q) else (X 237 80 [.ref 68, .long x1, xmk, .int 0, .int x4] [] (SH L, mi, ml, MR) d Q) := by
  refine (R_pure0 (ins := .iload_n 3) (len := 1) (loc' := [.ref 68, .long x1, xmk, .int x3, .int x4]) (st' := [.int x3]) (by decide +kernel) (fun _ => rfl)).trans ?_
  refine (R_pure0 (ins := .aload_n 0) (len := 1) (loc' := [.ref 68, .long x1, xmk, .int x3, .int x4]) (st' := [.ref 68, .int x3]) (by decide +kernel) (fun _ => rfl)).trans ?_
  refine (R_gi (i := 131) (ci := 10) (k := 4) (n := 33) (by decide +kernel) (by decide +kernel) (by decide) rfl).trans ?_
  refine (R_icmp_ge (off := 40) (t := 78) (by decide +kernel) (by decide +kernel)).trans (ite_congr rfl (fun c0 => ?_) (fun c0 => ?_))
  · refine (R_iconst (n := 0) (v := 0) (by decide +kernel) (by decide +kernel)).trans ?_
    refine (R_pure0 (ins := .istore 4) (len := 2) (loc' := [.ref 68, .long x1, xmk, .int x3, .int 0]) (st' := []) (by decide +kernel) (fun _ => rfl)).trans ?_
    rfl
  · refine (R_iconst (n := 0) (v := 0) (by decide +kernel) (by decide +kernel)).trans ?_
    refine (R_pure0 (ins := .istore_n 3) (len := 1) (loc' := [.ref 68, .long x1, xmk, .int 0, .int x4]) (st' := []) (by decide +kernel) (fun _ => rfl)).trans ?_
    rfl
theorem s237_128 {L : Nat} {mi : Nat → Nat → Int32} {ml : Nat → Nat → Int64} {d : Nat} {Q : Option Value → xM → Prop} {x3 : Int32} {x1 : Int64} (h1 : (x3 < 6) → xin x3 6 = true) : X 237 128 [.ref 68, .long x1, xmk, .int x3, xmk] [] (SH L, mi, ml, MR) d Q =
    if (x3 < 6) then (X 237 151 [.ref 68, .long ((31 * x1) + (mi 69 x3.toNatClampNeg).toInt64), xmk, .int x3, .int 0] [] (SH L, mi, ml, MR) d Q) else (X 237 196 [.ref 68, .long x1, xmk, .int 0, xmk] [] (SH L, mi, ml, MR) d Q) := by
  refine (R_pure0 (ins := .iload_n 3) (len := 1) (loc' := [.ref 68, .long x1, xmk, .int x3, xmk]) (st' := [.int x3]) (by decide +kernel) (fun _ => rfl)).trans ?_
  refine (R_bipush (n := 6) (v := 6) (by decide +kernel) (by decide +kernel)).trans ?_
  refine (R_icmp_ge (off := 63) (t := 194) (by decide +kernel) (by decide +kernel)).trans (ite_congr rfl (fun c0 => ?_) (fun c0 => ?_))
  · refine (R_ldc2 (i := 299) (v := 31) (by decide +kernel) (by decide +kernel)).trans ?_
    refine (R_pure0 (ins := .lload_n 1) (len := 1) (loc' := [.ref 68, .long x1, xmk, .int x3, xmk]) (st' := [.long x1, .long 31]) (by decide +kernel) (fun _ => rfl)).trans ?_
    refine (R_pure0 (ins := .lmul) (len := 1) (loc' := [.ref 68, .long x1, xmk, .int x3, xmk]) (st' := [.long (31 * x1)]) (by decide +kernel) (fun _ => rfl)).trans ?_
    refine (R_pure0 (ins := .aload_n 0) (len := 1) (loc' := [.ref 68, .long x1, xmk, .int x3, xmk]) (st' := [.ref 68, .long (31 * x1)]) (by decide +kernel) (fun _ => rfl)).trans ?_
    refine (R_gr (i := 7) (ci := 10) (k := 0) (n := 33) (b := 69) (by decide +kernel) (by decide +kernel) (by decide) rfl (SH_ref (by decide +kernel))).trans ?_
    refine (R_pure0 (ins := .iload_n 3) (len := 1) (loc' := [.ref 68, .long x1, xmk, .int x3, xmk]) (st' := [.int x3, .ref 69, .long (31 * x1)]) (by decide +kernel) (fun _ => rfl)).trans ?_
    refine (R_iaload (kd := 100) (n := 6) (by decide +kernel) rfl (by decide) (h1 c0)).trans ?_
    refine (R_pure0 (ins := .i2l) (len := 1) (loc' := [.ref 68, .long x1, xmk, .int x3, xmk]) (st' := [.long (mi 69 x3.toNatClampNeg).toInt64, .long (31 * x1)]) (by decide +kernel) (fun _ => rfl)).trans ?_
    refine (R_pure0 (ins := .ladd) (len := 1) (loc' := [.ref 68, .long x1, xmk, .int x3, xmk]) (st' := [.long ((31 * x1) + (mi 69 x3.toNatClampNeg).toInt64)]) (by decide +kernel) (fun _ => rfl)).trans ?_
    refine (R_pure0 (ins := .lstore_n 1) (len := 1) (loc' := [.ref 68, .long ((31 * x1) + (mi 69 x3.toNatClampNeg).toInt64), xmk, .int x3, xmk]) (st' := []) (by decide +kernel) (fun _ => rfl)).trans ?_
    refine (R_iconst (n := 0) (v := 0) (by decide +kernel) (by decide +kernel)).trans ?_
    refine (R_pure0 (ins := .istore 4) (len := 2) (loc' := [.ref 68, .long ((31 * x1) + (mi 69 x3.toNatClampNeg).toInt64), xmk, .int x3, .int 0]) (st' := []) (by decide +kernel) (fun _ => rfl)).trans ?_
    rfl
  · refine (R_iconst (n := 0) (v := 0) (by decide +kernel) (by decide +kernel)).trans ?_
    refine (R_pure0 (ins := .istore_n 3) (len := 1) (loc' := [.ref 68, .long x1, xmk, .int 0, xmk]) (st' := []) (by decide +kernel) (fun _ => rfl)).trans ?_
    rfl
theorem s237_80v2 {L : Nat} {mi : Nat → Nat → Int32} {ml : Nat → Nat → Int64} {d : Nat} {Q : Option Value → xM → Prop} {x3 x4 : Int32} {x1 : Int64} (h1 : (x3 < 3) → xin x3 3 = true) (h2 : (x3 < 3) → ¬ ((mi 80 x3.toNatClampNeg) = 0) → xin ((616 * x3) + 615) 1848 = true) : X 237 80 [.ref 68, .long x1, xmk, .int x3, .int x4] [] (SH L, mi, ml, MR) d Q =
    if (x3 < 3) then (if ((mi 80 x3.toNatClampNeg) = 0) then (X 237 80 [.ref 68, .long ((31 * x1) + ((-1) : Int32).toInt64), xmk, .int (x3 + 1), .int x4] [] (SH L, mi, ml, MR) d Q) else (X 237 80 [.ref 68, .long ((31 * x1) + (mi 79 ((616 * x3) + 615).toNatClampNeg).toInt64), xmk, .int (x3 + 1), .int x4] [] (SH L, mi, ml, MR) d Q)) else (X 237 128 [.ref 68, .long x1, xmk, .int 0, .int x4] [] (SH L, mi, ml, MR) d Q) := by
  refine (R_pure0 (ins := .iload_n 3) (len := 1) (loc' := [.ref 68, .long x1, xmk, .int x3, .int x4]) (st' := [.int x3]) (by decide +kernel) (fun _ => rfl)).trans ?_
  refine (R_iconst (n := 3) (v := 3) (by decide +kernel) (by decide +kernel)).trans ?_
  refine (R_icmp_ge (off := 44) (t := 126) (by decide +kernel) (by decide +kernel)).trans (ite_congr rfl (fun c0 => ?_) (fun c0 => ?_))
  · refine (R_ldc2 (i := 299) (v := 31) (by decide +kernel) (by decide +kernel)).trans ?_
    refine (R_pure0 (ins := .lload_n 1) (len := 1) (loc' := [.ref 68, .long x1, xmk, .int x3, .int x4]) (st' := [.long x1, .long 31]) (by decide +kernel) (fun _ => rfl)).trans ?_
    refine (R_pure0 (ins := .lmul) (len := 1) (loc' := [.ref 68, .long x1, xmk, .int x3, .int x4]) (st' := [.long (31 * x1)]) (by decide +kernel) (fun _ => rfl)).trans ?_
    refine (R_pure0 (ins := .aload_n 0) (len := 1) (loc' := [.ref 68, .long x1, xmk, .int x3, .int x4]) (st' := [.ref 68, .long (31 * x1)]) (by decide +kernel) (fun _ => rfl)).trans ?_
    refine (R_gr (i := 43) (ci := 10) (k := 13) (n := 33) (b := 80) (by decide +kernel) (by decide +kernel) (by decide) rfl (SH_ref (by decide +kernel))).trans ?_
    refine (R_pure0 (ins := .iload_n 3) (len := 1) (loc' := [.ref 68, .long x1, xmk, .int x3, .int x4]) (st' := [.int x3, .ref 80, .long (31 * x1)]) (by decide +kernel) (fun _ => rfl)).trans ?_
    refine (R_baload (n := 3) (by decide +kernel) rfl (h1 c0)).trans ?_
    refine (R_if_eq (off := 20) (t := 116) (by decide +kernel) (by decide +kernel)).trans (ite_congr rfl (fun c1 => ?_) (fun c1 => ?_))
    · refine (R_iconst (n := (-1)) (v := (-1)) (by decide +kernel) (by decide +kernel)).trans ?_
      refine (R_pure0 (ins := .i2l) (len := 1) (loc' := [.ref 68, .long x1, xmk, .int x3, .int x4]) (st' := [.long ((-1) : Int32).toInt64, .long (31 * x1)]) (by decide +kernel) (fun _ => rfl)).trans ?_
      refine (R_pure0 (ins := .ladd) (len := 1) (loc' := [.ref 68, .long x1, xmk, .int x3, .int x4]) (st' := [.long ((31 * x1) + ((-1) : Int32).toInt64)]) (by decide +kernel) (fun _ => rfl)).trans ?_
      refine (R_pure0 (ins := .lstore_n 1) (len := 1) (loc' := [.ref 68, .long ((31 * x1) + ((-1) : Int32).toInt64), xmk, .int x3, .int x4]) (st' := []) (by decide +kernel) (fun _ => rfl)).trans ?_
      refine (R_iinc (k := 3) (n := 1) (x := x3) (v := (x3 + 1)) (loc' := [.ref 68, .long ((31 * x1) + ((-1) : Int32).toInt64), xmk, .int (x3 + 1), .int x4]) (by decide +kernel) rfl rfl rfl).trans ?_
      refine (R_goto (off := (-43)) (t := 80) (by decide +kernel) (by decide +kernel)).trans ?_
      rfl
    · refine (R_pure0 (ins := .aload_n 0) (len := 1) (loc' := [.ref 68, .long x1, xmk, .int x3, .int x4]) (st' := [.ref 68, .long (31 * x1)]) (by decide +kernel) (fun _ => rfl)).trans ?_
      refine (R_gr (i := 40) (ci := 10) (k := 12) (n := 33) (b := 79) (by decide +kernel) (by decide +kernel) (by decide) rfl (SH_ref (by decide +kernel))).trans ?_
      refine (R_sipush (n := 616) (v := 616) (by decide +kernel) (by decide +kernel)).trans ?_
      refine (R_pure0 (ins := .iload_n 3) (len := 1) (loc' := [.ref 68, .long x1, xmk, .int x3, .int x4]) (st' := [.int x3, .int 616, .ref 79, .long (31 * x1)]) (by decide +kernel) (fun _ => rfl)).trans ?_
      refine (R_pure0 (ins := .imul) (len := 1) (loc' := [.ref 68, .long x1, xmk, .int x3, .int x4]) (st' := [.int (616 * x3), .ref 79, .long (31 * x1)]) (by decide +kernel) (fun _ => rfl)).trans ?_
      refine (R_sipush (n := 615) (v := 615) (by decide +kernel) (by decide +kernel)).trans ?_
      refine (R_pure0 (ins := .iadd) (len := 1) (loc' := [.ref 68, .long x1, xmk, .int x3, .int x4]) (st' := [.int ((616 * x3) + 615), .ref 79, .long (31 * x1)]) (by decide +kernel) (fun _ => rfl)).trans ?_
      refine (R_iaload (kd := 100) (n := 1848) (by decide +kernel) rfl (by decide) (h2 c0 c1)).trans ?_
      refine (R_goto (off := 4) (t := 117) (by decide +kernel) (by decide +kernel)).trans ?_
      refine (R_pure0 (ins := .i2l) (len := 1) (loc' := [.ref 68, .long x1, xmk, .int x3, .int x4]) (st' := [.long (mi 79 ((616 * x3) + 615).toNatClampNeg).toInt64, .long (31 * x1)]) (by decide +kernel) (fun _ => rfl)).trans ?_
      refine (R_pure0 (ins := .ladd) (len := 1) (loc' := [.ref 68, .long x1, xmk, .int x3, .int x4]) (st' := [.long ((31 * x1) + (mi 79 ((616 * x3) + 615).toNatClampNeg).toInt64)]) (by decide +kernel) (fun _ => rfl)).trans ?_
      refine (R_pure0 (ins := .lstore_n 1) (len := 1) (loc' := [.ref 68, .long ((31 * x1) + (mi 79 ((616 * x3) + 615).toNatClampNeg).toInt64), xmk, .int x3, .int x4]) (st' := []) (by decide +kernel) (fun _ => rfl)).trans ?_
      refine (R_iinc (k := 3) (n := 1) (x := x3) (v := (x3 + 1)) (loc' := [.ref 68, .long ((31 * x1) + (mi 79 ((616 * x3) + 615).toNatClampNeg).toInt64), xmk, .int (x3 + 1), .int x4]) (by decide +kernel) rfl rfl rfl).trans ?_
      refine (R_goto (off := (-43)) (t := 80) (by decide +kernel) (by decide +kernel)).trans ?_
      rfl
  · refine (R_iconst (n := 0) (v := 0) (by decide +kernel) (by decide +kernel)).trans ?_
    refine (R_pure0 (ins := .istore_n 3) (len := 1) (loc' := [.ref 68, .long x1, xmk, .int 0, .int x4]) (st' := []) (by decide +kernel) (fun _ => rfl)).trans ?_
    rfl
theorem s237_151 {L : Nat} {mi : Nat → Nat → Int32} {ml : Nat → Nat → Int64} {d : Nat} {Q : Option Value → xM → Prop} {x3 x4 : Int32} {x1 : Int64} (h1 : xin x3 6 = true) (h2 : (x4 < (mi 69 x3.toNatClampNeg)) → xin ((40 * x3) + x4) 240 = true) : X 237 151 [.ref 68, .long x1, xmk, .int x3, .int x4] [] (SH L, mi, ml, MR) d Q =
    if (x4 < (mi 69 x3.toNatClampNeg)) then (X 237 151 [.ref 68, .long ((31 * x1) + (mi 70 ((40 * x3) + x4).toNatClampNeg).toInt64), xmk, .int x3, .int (x4 + 1)] [] (SH L, mi, ml, MR) d Q) else (X 237 128 [.ref 68, .long x1, xmk, .int (x3 + 1), .int x4] [] (SH L, mi, ml, MR) d Q) := by
  refine (R_pure0 (ins := .iload 4) (len := 2) (loc' := [.ref 68, .long x1, xmk, .int x3, .int x4]) (st' := [.int x4]) (by decide +kernel) (fun _ => rfl)).trans ?_
  refine (R_pure0 (ins := .aload_n 0) (len := 1) (loc' := [.ref 68, .long x1, xmk, .int x3, .int x4]) (st' := [.ref 68, .int x4]) (by decide +kernel) (fun _ => rfl)).trans ?_
  refine (R_gr (i := 7) (ci := 10) (k := 0) (n := 33) (b := 69) (by decide +kernel) (by decide +kernel) (by decide) rfl (SH_ref (by decide +kernel))).trans ?_
  refine (R_pure0 (ins := .iload_n 3) (len := 1) (loc' := [.ref 68, .long x1, xmk, .int x3, .int x4]) (st' := [.int x3, .ref 69, .int x4]) (by decide +kernel) (fun _ => rfl)).trans ?_
  refine (R_iaload (kd := 100) (n := 6) (by decide +kernel) rfl (by decide) (h1)).trans ?_
  refine (R_icmp_ge (off := 29) (t := 188) (by decide +kernel) (by decide +kernel)).trans (ite_congr rfl (fun c0 => ?_) (fun c0 => ?_))
  · refine (R_ldc2 (i := 299) (v := 31) (by decide +kernel) (by decide +kernel)).trans ?_
    refine (R_pure0 (ins := .lload_n 1) (len := 1) (loc' := [.ref 68, .long x1, xmk, .int x3, .int x4]) (st' := [.long x1, .long 31]) (by decide +kernel) (fun _ => rfl)).trans ?_
    refine (R_pure0 (ins := .lmul) (len := 1) (loc' := [.ref 68, .long x1, xmk, .int x3, .int x4]) (st' := [.long (31 * x1)]) (by decide +kernel) (fun _ => rfl)).trans ?_
    refine (R_pure0 (ins := .aload_n 0) (len := 1) (loc' := [.ref 68, .long x1, xmk, .int x3, .int x4]) (st' := [.ref 68, .long (31 * x1)]) (by decide +kernel) (fun _ => rfl)).trans ?_
    refine (R_gr (i := 13) (ci := 10) (k := 1) (n := 33) (b := 70) (by decide +kernel) (by decide +kernel) (by decide) rfl (SH_ref (by decide +kernel))).trans ?_
    refine (R_bipush (n := 40) (v := 40) (by decide +kernel) (by decide +kernel)).trans ?_
    refine (R_pure0 (ins := .iload_n 3) (len := 1) (loc' := [.ref 68, .long x1, xmk, .int x3, .int x4]) (st' := [.int x3, .int 40, .ref 70, .long (31 * x1)]) (by decide +kernel) (fun _ => rfl)).trans ?_
    refine (R_pure0 (ins := .imul) (len := 1) (loc' := [.ref 68, .long x1, xmk, .int x3, .int x4]) (st' := [.int (40 * x3), .ref 70, .long (31 * x1)]) (by decide +kernel) (fun _ => rfl)).trans ?_
    refine (R_pure0 (ins := .iload 4) (len := 2) (loc' := [.ref 68, .long x1, xmk, .int x3, .int x4]) (st' := [.int x4, .int (40 * x3), .ref 70, .long (31 * x1)]) (by decide +kernel) (fun _ => rfl)).trans ?_
    refine (R_pure0 (ins := .iadd) (len := 1) (loc' := [.ref 68, .long x1, xmk, .int x3, .int x4]) (st' := [.int ((40 * x3) + x4), .ref 70, .long (31 * x1)]) (by decide +kernel) (fun _ => rfl)).trans ?_
    refine (R_iaload (kd := 100) (n := 240) (by decide +kernel) rfl (by decide) (h2 c0)).trans ?_
    refine (R_pure0 (ins := .i2l) (len := 1) (loc' := [.ref 68, .long x1, xmk, .int x3, .int x4]) (st' := [.long (mi 70 ((40 * x3) + x4).toNatClampNeg).toInt64, .long (31 * x1)]) (by decide +kernel) (fun _ => rfl)).trans ?_
    refine (R_pure0 (ins := .ladd) (len := 1) (loc' := [.ref 68, .long x1, xmk, .int x3, .int x4]) (st' := [.long ((31 * x1) + (mi 70 ((40 * x3) + x4).toNatClampNeg).toInt64)]) (by decide +kernel) (fun _ => rfl)).trans ?_
    refine (R_pure0 (ins := .lstore_n 1) (len := 1) (loc' := [.ref 68, .long ((31 * x1) + (mi 70 ((40 * x3) + x4).toNatClampNeg).toInt64), xmk, .int x3, .int x4]) (st' := []) (by decide +kernel) (fun _ => rfl)).trans ?_
    refine (R_iinc (k := 4) (n := 1) (x := x4) (v := (x4 + 1)) (loc' := [.ref 68, .long ((31 * x1) + (mi 70 ((40 * x3) + x4).toNatClampNeg).toInt64), xmk, .int x3, .int (x4 + 1)]) (by decide +kernel) rfl rfl rfl).trans ?_
    refine (R_goto (off := (-34)) (t := 151) (by decide +kernel) (by decide +kernel)).trans ?_
    rfl
  · refine (R_iinc (k := 3) (n := 1) (x := x3) (v := (x3 + 1)) (loc' := [.ref 68, .long x1, xmk, .int (x3 + 1), .int x4]) (by decide +kernel) rfl rfl rfl).trans ?_
    refine (R_goto (off := (-63)) (t := 128) (by decide +kernel) (by decide +kernel)).trans ?_
    rfl
theorem s237_196 {L : Nat} {mi : Nat → Nat → Int32} {ml : Nat → Nat → Int64} {d : Nat} {Q : Option Value → xM → Prop} {x3 : Int32} {x1 : Int64} (h1 : (x3 < 4) → xin x3 4 = true) : X 237 196 [.ref 68, .long x1, xmk, .int x3, xmk] [] (SH L, mi, ml, MR) d Q =
    if (x3 < 4) then (X 237 218 [.ref 68, .long ((31 * x1) + (mi 71 x3.toNatClampNeg).toInt64), xmk, .int x3, .int 0] [] (SH L, mi, ml, MR) d Q) else (Q (some (.long x1)) (SH L, mi, ml, MR)) := by
  refine (R_pure0 (ins := .iload_n 3) (len := 1) (loc' := [.ref 68, .long x1, xmk, .int x3, xmk]) (st' := [.int x3]) (by decide +kernel) (fun _ => rfl)).trans ?_
  refine (R_iconst (n := 4) (v := 4) (by decide +kernel) (by decide +kernel)).trans ?_
  refine (R_icmp_ge (off := 63) (t := 261) (by decide +kernel) (by decide +kernel)).trans (ite_congr rfl (fun c0 => ?_) (fun c0 => ?_))
  · refine (R_ldc2 (i := 299) (v := 31) (by decide +kernel) (by decide +kernel)).trans ?_
    refine (R_pure0 (ins := .lload_n 1) (len := 1) (loc' := [.ref 68, .long x1, xmk, .int x3, xmk]) (st' := [.long x1, .long 31]) (by decide +kernel) (fun _ => rfl)).trans ?_
    refine (R_pure0 (ins := .lmul) (len := 1) (loc' := [.ref 68, .long x1, xmk, .int x3, xmk]) (st' := [.long (31 * x1)]) (by decide +kernel) (fun _ => rfl)).trans ?_
    refine (R_pure0 (ins := .aload_n 0) (len := 1) (loc' := [.ref 68, .long x1, xmk, .int x3, xmk]) (st' := [.ref 68, .long (31 * x1)]) (by decide +kernel) (fun _ => rfl)).trans ?_
    refine (R_gr (i := 16) (ci := 10) (k := 2) (n := 33) (b := 71) (by decide +kernel) (by decide +kernel) (by decide) rfl (SH_ref (by decide +kernel))).trans ?_
    refine (R_pure0 (ins := .iload_n 3) (len := 1) (loc' := [.ref 68, .long x1, xmk, .int x3, xmk]) (st' := [.int x3, .ref 71, .long (31 * x1)]) (by decide +kernel) (fun _ => rfl)).trans ?_
    refine (R_iaload (kd := 100) (n := 4) (by decide +kernel) rfl (by decide) (h1 c0)).trans ?_
    refine (R_pure0 (ins := .i2l) (len := 1) (loc' := [.ref 68, .long x1, xmk, .int x3, xmk]) (st' := [.long (mi 71 x3.toNatClampNeg).toInt64, .long (31 * x1)]) (by decide +kernel) (fun _ => rfl)).trans ?_
    refine (R_pure0 (ins := .ladd) (len := 1) (loc' := [.ref 68, .long x1, xmk, .int x3, xmk]) (st' := [.long ((31 * x1) + (mi 71 x3.toNatClampNeg).toInt64)]) (by decide +kernel) (fun _ => rfl)).trans ?_
    refine (R_pure0 (ins := .lstore_n 1) (len := 1) (loc' := [.ref 68, .long ((31 * x1) + (mi 71 x3.toNatClampNeg).toInt64), xmk, .int x3, xmk]) (st' := []) (by decide +kernel) (fun _ => rfl)).trans ?_
    refine (R_iconst (n := 0) (v := 0) (by decide +kernel) (by decide +kernel)).trans ?_
    refine (R_pure0 (ins := .istore 4) (len := 2) (loc' := [.ref 68, .long ((31 * x1) + (mi 71 x3.toNatClampNeg).toInt64), xmk, .int x3, .int 0]) (st' := []) (by decide +kernel) (fun _ => rfl)).trans ?_
    rfl
  · refine (R_pure0 (ins := .lload_n 1) (len := 1) (loc' := [.ref 68, .long x1, xmk, .int x3, xmk]) (st' := [.long x1]) (by decide +kernel) (fun _ => rfl)).trans ?_
    exact R_lreturn (by decide +kernel) (by decide +kernel)
theorem s237_128v2 {L : Nat} {mi : Nat → Nat → Int32} {ml : Nat → Nat → Int64} {d : Nat} {Q : Option Value → xM → Prop} {x3 x4 : Int32} {x1 : Int64} (h1 : (x3 < 6) → xin x3 6 = true) : X 237 128 [.ref 68, .long x1, xmk, .int x3, .int x4] [] (SH L, mi, ml, MR) d Q =
    if (x3 < 6) then (X 237 151 [.ref 68, .long ((31 * x1) + (mi 69 x3.toNatClampNeg).toInt64), xmk, .int x3, .int 0] [] (SH L, mi, ml, MR) d Q) else (X 237 196 [.ref 68, .long x1, xmk, .int 0, .int x4] [] (SH L, mi, ml, MR) d Q) := by
  refine (R_pure0 (ins := .iload_n 3) (len := 1) (loc' := [.ref 68, .long x1, xmk, .int x3, .int x4]) (st' := [.int x3]) (by decide +kernel) (fun _ => rfl)).trans ?_
  refine (R_bipush (n := 6) (v := 6) (by decide +kernel) (by decide +kernel)).trans ?_
  refine (R_icmp_ge (off := 63) (t := 194) (by decide +kernel) (by decide +kernel)).trans (ite_congr rfl (fun c0 => ?_) (fun c0 => ?_))
  · refine (R_ldc2 (i := 299) (v := 31) (by decide +kernel) (by decide +kernel)).trans ?_
    refine (R_pure0 (ins := .lload_n 1) (len := 1) (loc' := [.ref 68, .long x1, xmk, .int x3, .int x4]) (st' := [.long x1, .long 31]) (by decide +kernel) (fun _ => rfl)).trans ?_
    refine (R_pure0 (ins := .lmul) (len := 1) (loc' := [.ref 68, .long x1, xmk, .int x3, .int x4]) (st' := [.long (31 * x1)]) (by decide +kernel) (fun _ => rfl)).trans ?_
    refine (R_pure0 (ins := .aload_n 0) (len := 1) (loc' := [.ref 68, .long x1, xmk, .int x3, .int x4]) (st' := [.ref 68, .long (31 * x1)]) (by decide +kernel) (fun _ => rfl)).trans ?_
    refine (R_gr (i := 7) (ci := 10) (k := 0) (n := 33) (b := 69) (by decide +kernel) (by decide +kernel) (by decide) rfl (SH_ref (by decide +kernel))).trans ?_
    refine (R_pure0 (ins := .iload_n 3) (len := 1) (loc' := [.ref 68, .long x1, xmk, .int x3, .int x4]) (st' := [.int x3, .ref 69, .long (31 * x1)]) (by decide +kernel) (fun _ => rfl)).trans ?_
    refine (R_iaload (kd := 100) (n := 6) (by decide +kernel) rfl (by decide) (h1 c0)).trans ?_
    refine (R_pure0 (ins := .i2l) (len := 1) (loc' := [.ref 68, .long x1, xmk, .int x3, .int x4]) (st' := [.long (mi 69 x3.toNatClampNeg).toInt64, .long (31 * x1)]) (by decide +kernel) (fun _ => rfl)).trans ?_
    refine (R_pure0 (ins := .ladd) (len := 1) (loc' := [.ref 68, .long x1, xmk, .int x3, .int x4]) (st' := [.long ((31 * x1) + (mi 69 x3.toNatClampNeg).toInt64)]) (by decide +kernel) (fun _ => rfl)).trans ?_
    refine (R_pure0 (ins := .lstore_n 1) (len := 1) (loc' := [.ref 68, .long ((31 * x1) + (mi 69 x3.toNatClampNeg).toInt64), xmk, .int x3, .int x4]) (st' := []) (by decide +kernel) (fun _ => rfl)).trans ?_
    refine (R_iconst (n := 0) (v := 0) (by decide +kernel) (by decide +kernel)).trans ?_
    refine (R_pure0 (ins := .istore 4) (len := 2) (loc' := [.ref 68, .long ((31 * x1) + (mi 69 x3.toNatClampNeg).toInt64), xmk, .int x3, .int 0]) (st' := []) (by decide +kernel) (fun _ => rfl)).trans ?_
    rfl
  · refine (R_iconst (n := 0) (v := 0) (by decide +kernel) (by decide +kernel)).trans ?_
    refine (R_pure0 (ins := .istore_n 3) (len := 1) (loc' := [.ref 68, .long x1, xmk, .int 0, .int x4]) (st' := []) (by decide +kernel) (fun _ => rfl)).trans ?_
    rfl
theorem s237_218 {L : Nat} {mi : Nat → Nat → Int32} {ml : Nat → Nat → Int64} {d : Nat} {Q : Option Value → xM → Prop} {x3 x4 : Int32} {x1 : Int64} (h1 : xin x3 4 = true) (h2 : (x4 < (mi 71 x3.toNatClampNeg)) → xin ((60 * x3) + x4) 240 = true) : X 237 218 [.ref 68, .long x1, xmk, .int x3, .int x4] [] (SH L, mi, ml, MR) d Q =
    if (x4 < (mi 71 x3.toNatClampNeg)) then (X 237 218 [.ref 68, .long ((31 * x1) + (mi 72 ((60 * x3) + x4).toNatClampNeg).toInt64), xmk, .int x3, .int (x4 + 1)] [] (SH L, mi, ml, MR) d Q) else (X 237 196 [.ref 68, .long x1, xmk, .int (x3 + 1), .int x4] [] (SH L, mi, ml, MR) d Q) := by
  refine (R_pure0 (ins := .iload 4) (len := 2) (loc' := [.ref 68, .long x1, xmk, .int x3, .int x4]) (st' := [.int x4]) (by decide +kernel) (fun _ => rfl)).trans ?_
  refine (R_pure0 (ins := .aload_n 0) (len := 1) (loc' := [.ref 68, .long x1, xmk, .int x3, .int x4]) (st' := [.ref 68, .int x4]) (by decide +kernel) (fun _ => rfl)).trans ?_
  refine (R_gr (i := 16) (ci := 10) (k := 2) (n := 33) (b := 71) (by decide +kernel) (by decide +kernel) (by decide) rfl (SH_ref (by decide +kernel))).trans ?_
  refine (R_pure0 (ins := .iload_n 3) (len := 1) (loc' := [.ref 68, .long x1, xmk, .int x3, .int x4]) (st' := [.int x3, .ref 71, .int x4]) (by decide +kernel) (fun _ => rfl)).trans ?_
  refine (R_iaload (kd := 100) (n := 4) (by decide +kernel) rfl (by decide) (h1)).trans ?_
  refine (R_icmp_ge (off := 29) (t := 255) (by decide +kernel) (by decide +kernel)).trans (ite_congr rfl (fun c0 => ?_) (fun c0 => ?_))
  · refine (R_ldc2 (i := 299) (v := 31) (by decide +kernel) (by decide +kernel)).trans ?_
    refine (R_pure0 (ins := .lload_n 1) (len := 1) (loc' := [.ref 68, .long x1, xmk, .int x3, .int x4]) (st' := [.long x1, .long 31]) (by decide +kernel) (fun _ => rfl)).trans ?_
    refine (R_pure0 (ins := .lmul) (len := 1) (loc' := [.ref 68, .long x1, xmk, .int x3, .int x4]) (st' := [.long (31 * x1)]) (by decide +kernel) (fun _ => rfl)).trans ?_
    refine (R_pure0 (ins := .aload_n 0) (len := 1) (loc' := [.ref 68, .long x1, xmk, .int x3, .int x4]) (st' := [.ref 68, .long (31 * x1)]) (by decide +kernel) (fun _ => rfl)).trans ?_
    refine (R_gr (i := 19) (ci := 10) (k := 3) (n := 33) (b := 72) (by decide +kernel) (by decide +kernel) (by decide) rfl (SH_ref (by decide +kernel))).trans ?_
    refine (R_bipush (n := 60) (v := 60) (by decide +kernel) (by decide +kernel)).trans ?_
    refine (R_pure0 (ins := .iload_n 3) (len := 1) (loc' := [.ref 68, .long x1, xmk, .int x3, .int x4]) (st' := [.int x3, .int 60, .ref 72, .long (31 * x1)]) (by decide +kernel) (fun _ => rfl)).trans ?_
    refine (R_pure0 (ins := .imul) (len := 1) (loc' := [.ref 68, .long x1, xmk, .int x3, .int x4]) (st' := [.int (60 * x3), .ref 72, .long (31 * x1)]) (by decide +kernel) (fun _ => rfl)).trans ?_
    refine (R_pure0 (ins := .iload 4) (len := 2) (loc' := [.ref 68, .long x1, xmk, .int x3, .int x4]) (st' := [.int x4, .int (60 * x3), .ref 72, .long (31 * x1)]) (by decide +kernel) (fun _ => rfl)).trans ?_
    refine (R_pure0 (ins := .iadd) (len := 1) (loc' := [.ref 68, .long x1, xmk, .int x3, .int x4]) (st' := [.int ((60 * x3) + x4), .ref 72, .long (31 * x1)]) (by decide +kernel) (fun _ => rfl)).trans ?_
    refine (R_iaload (kd := 100) (n := 240) (by decide +kernel) rfl (by decide) (h2 c0)).trans ?_
    refine (R_pure0 (ins := .i2l) (len := 1) (loc' := [.ref 68, .long x1, xmk, .int x3, .int x4]) (st' := [.long (mi 72 ((60 * x3) + x4).toNatClampNeg).toInt64, .long (31 * x1)]) (by decide +kernel) (fun _ => rfl)).trans ?_
    refine (R_pure0 (ins := .ladd) (len := 1) (loc' := [.ref 68, .long x1, xmk, .int x3, .int x4]) (st' := [.long ((31 * x1) + (mi 72 ((60 * x3) + x4).toNatClampNeg).toInt64)]) (by decide +kernel) (fun _ => rfl)).trans ?_
    refine (R_pure0 (ins := .lstore_n 1) (len := 1) (loc' := [.ref 68, .long ((31 * x1) + (mi 72 ((60 * x3) + x4).toNatClampNeg).toInt64), xmk, .int x3, .int x4]) (st' := []) (by decide +kernel) (fun _ => rfl)).trans ?_
    refine (R_iinc (k := 4) (n := 1) (x := x4) (v := (x4 + 1)) (loc' := [.ref 68, .long ((31 * x1) + (mi 72 ((60 * x3) + x4).toNatClampNeg).toInt64), xmk, .int x3, .int (x4 + 1)]) (by decide +kernel) rfl rfl rfl).trans ?_
    refine (R_goto (off := (-34)) (t := 218) (by decide +kernel) (by decide +kernel)).trans ?_
    rfl
  · refine (R_iinc (k := 3) (n := 1) (x := x3) (v := (x3 + 1)) (loc' := [.ref 68, .long x1, xmk, .int (x3 + 1), .int x4]) (by decide +kernel) rfl rfl rfl).trans ?_
    refine (R_goto (off := (-62)) (t := 196) (by decide +kernel) (by decide +kernel)).trans ?_
    rfl
theorem s237_196v2 {L : Nat} {mi : Nat → Nat → Int32} {ml : Nat → Nat → Int64} {d : Nat} {Q : Option Value → xM → Prop} {x3 x4 : Int32} {x1 : Int64} (h1 : (x3 < 4) → xin x3 4 = true) : X 237 196 [.ref 68, .long x1, xmk, .int x3, .int x4] [] (SH L, mi, ml, MR) d Q =
    if (x3 < 4) then (X 237 218 [.ref 68, .long ((31 * x1) + (mi 71 x3.toNatClampNeg).toInt64), xmk, .int x3, .int 0] [] (SH L, mi, ml, MR) d Q) else (Q (some (.long x1)) (SH L, mi, ml, MR)) := by
  refine (R_pure0 (ins := .iload_n 3) (len := 1) (loc' := [.ref 68, .long x1, xmk, .int x3, .int x4]) (st' := [.int x3]) (by decide +kernel) (fun _ => rfl)).trans ?_
  refine (R_iconst (n := 4) (v := 4) (by decide +kernel) (by decide +kernel)).trans ?_
  refine (R_icmp_ge (off := 63) (t := 261) (by decide +kernel) (by decide +kernel)).trans (ite_congr rfl (fun c0 => ?_) (fun c0 => ?_))
  · refine (R_ldc2 (i := 299) (v := 31) (by decide +kernel) (by decide +kernel)).trans ?_
    refine (R_pure0 (ins := .lload_n 1) (len := 1) (loc' := [.ref 68, .long x1, xmk, .int x3, .int x4]) (st' := [.long x1, .long 31]) (by decide +kernel) (fun _ => rfl)).trans ?_
    refine (R_pure0 (ins := .lmul) (len := 1) (loc' := [.ref 68, .long x1, xmk, .int x3, .int x4]) (st' := [.long (31 * x1)]) (by decide +kernel) (fun _ => rfl)).trans ?_
    refine (R_pure0 (ins := .aload_n 0) (len := 1) (loc' := [.ref 68, .long x1, xmk, .int x3, .int x4]) (st' := [.ref 68, .long (31 * x1)]) (by decide +kernel) (fun _ => rfl)).trans ?_
    refine (R_gr (i := 16) (ci := 10) (k := 2) (n := 33) (b := 71) (by decide +kernel) (by decide +kernel) (by decide) rfl (SH_ref (by decide +kernel))).trans ?_
    refine (R_pure0 (ins := .iload_n 3) (len := 1) (loc' := [.ref 68, .long x1, xmk, .int x3, .int x4]) (st' := [.int x3, .ref 71, .long (31 * x1)]) (by decide +kernel) (fun _ => rfl)).trans ?_
    refine (R_iaload (kd := 100) (n := 4) (by decide +kernel) rfl (by decide) (h1 c0)).trans ?_
    refine (R_pure0 (ins := .i2l) (len := 1) (loc' := [.ref 68, .long x1, xmk, .int x3, .int x4]) (st' := [.long (mi 71 x3.toNatClampNeg).toInt64, .long (31 * x1)]) (by decide +kernel) (fun _ => rfl)).trans ?_
    refine (R_pure0 (ins := .ladd) (len := 1) (loc' := [.ref 68, .long x1, xmk, .int x3, .int x4]) (st' := [.long ((31 * x1) + (mi 71 x3.toNatClampNeg).toInt64)]) (by decide +kernel) (fun _ => rfl)).trans ?_
    refine (R_pure0 (ins := .lstore_n 1) (len := 1) (loc' := [.ref 68, .long ((31 * x1) + (mi 71 x3.toNatClampNeg).toInt64), xmk, .int x3, .int x4]) (st' := []) (by decide +kernel) (fun _ => rfl)).trans ?_
    refine (R_iconst (n := 0) (v := 0) (by decide +kernel) (by decide +kernel)).trans ?_
    refine (R_pure0 (ins := .istore 4) (len := 2) (loc' := [.ref 68, .long ((31 * x1) + (mi 71 x3.toNatClampNeg).toInt64), xmk, .int x3, .int 0]) (st' := []) (by decide +kernel) (fun _ => rfl)).trans ?_
    rfl
  · refine (R_pure0 (ins := .lload_n 1) (len := 1) (loc' := [.ref 68, .long x1, xmk, .int x3, .int x4]) (st' := [.long x1]) (by decide +kernel) (fun _ => rfl)).trans ?_
    exact R_lreturn (by decide +kernel) (by decide +kernel)
