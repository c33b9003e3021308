theorem s149 {L : Nat} {mi : Nat → Nat → Int32} {ml : Nat → Nat → Int64} {d : Nat} {Q : Option Value → xM → Prop} {x0 x2 x4 : Int64} : Xm 149 [.long x0, .long x2, .long x4] (SH L, mi, ml, MR) d Q =
    if ((lg_cmp x0 x2) < 0) then (Q (some (.int 0)) (SH L, mi, ml, MR)) else (if ((0 : Int32) < (lg_cmp x0 x4)) then (Q (some (.int 0)) (SH L, mi, ml, MR)) else (Q (some (.int 1)) (SH L, mi, ml, MR))) := by
  rw [Xm_ent (n := 6) (loc := [.long x0, xmk, .long x2, xmk, .long x4, xmk]) (by decide +kernel) rfl]
  refine (R_pure0 (ins := .lload_n 0) (len := 1) (loc' := [.long x0, xmk, .long x2, xmk, .long x4, xmk]) (st' := [.long x0]) (by decide +kernel) (fun _ => rfl)).trans ?_
  refine (R_pure0 (ins := .lload_n 2) (len := 1) (loc' := [.long x0, xmk, .long x2, xmk, .long x4, xmk]) (st' := [.long x2, .long x0]) (by decide +kernel) (fun _ => rfl)).trans ?_
  refine (R_pure0 (ins := .lcmp) (len := 1) (loc' := [.long x0, xmk, .long x2, xmk, .long x4, xmk]) (st' := [.int (lg_cmp x0 x2)]) (by decide +kernel) (fun _ => rfl)).trans ?_
  refine (R_if_lt (off := 14) (t := 17) (by decide +kernel) (by decide +kernel)).trans (ite_congr rfl (fun c0 => ?_) (fun c0 => ?_))
  · refine (R_iconst (n := 0) (v := 0) (by decide +kernel) (by decide +kernel)).trans ?_
    exact R_zreturn (by decide +kernel) (by decide +kernel) (by decide)
  · refine (R_pure0 (ins := .lload_n 0) (len := 1) (loc' := [.long x0, xmk, .long x2, xmk, .long x4, xmk]) (st' := [.long x0]) (by decide +kernel) (fun _ => rfl)).trans ?_
    refine (R_pure0 (ins := .lload 4) (len := 2) (loc' := [.long x0, xmk, .long x2, xmk, .long x4, xmk]) (st' := [.long x4, .long x0]) (by decide +kernel) (fun _ => rfl)).trans ?_
    refine (R_pure0 (ins := .lcmp) (len := 1) (loc' := [.long x0, xmk, .long x2, xmk, .long x4, xmk]) (st' := [.int (lg_cmp x0 x4)]) (by decide +kernel) (fun _ => rfl)).trans ?_
    refine (R_if_gt (off := 7) (t := 17) (by decide +kernel) (by decide +kernel)).trans (ite_congr rfl (fun c1 => ?_) (fun c1 => ?_))
    · refine (R_iconst (n := 0) (v := 0) (by decide +kernel) (by decide +kernel)).trans ?_
      exact R_zreturn (by decide +kernel) (by decide +kernel) (by decide)
    · refine (R_iconst (n := 1) (v := 1) (by decide +kernel) (by decide +kernel)).trans ?_
      refine (R_goto (off := 4) (t := 18) (by decide +kernel) (by decide +kernel)).trans ?_
      exact R_zreturn (by decide +kernel) (by decide +kernel) (by decide)
theorem s150 {L : Nat} {mi : Nat → Nat → Int32} {ml : Nat → Nat → Int64} {d : Nat} {Q : Option Value → xM → Prop} {x0 x1 : Int32} : Xm 150 [.int x0, .int x1] (SH L, mi, ml, MR) d Q =
    if (((x0 >>> (x1 &&& 31)) &&& 1) = 1) then (Q (some (.int 1)) (SH L, mi, ml, MR)) else (Q (some (.int 0)) (SH L, mi, ml, MR)) := by
  rw [Xm_ent (n := 2) (loc := [.int x0, .int x1]) (by decide +kernel) rfl]
  refine (R_pure0 (ins := .iload_n 0) (len := 1) (loc' := [.int x0, .int x1]) (st' := [.int x0]) (by decide +kernel) (fun _ => rfl)).trans ?_
  refine (R_pure0 (ins := .iload_n 1) (len := 1) (loc' := [.int x0, .int x1]) (st' := [.int x1, .int x0]) (by decide +kernel) (fun _ => rfl)).trans ?_
  refine (R_pure0 (ins := .ishr) (len := 1) (loc' := [.int x0, .int x1]) (st' := [.int (x0 >>> (x1 &&& 31))]) (by decide +kernel) (fun _ => rfl)).trans ?_
  refine (R_iconst (n := 1) (v := 1) (by decide +kernel) (by decide +kernel)).trans ?_
  refine (R_pure0 (ins := .iand) (len := 1) (loc' := [.int x0, .int x1]) (st' := [.int ((x0 >>> (x1 &&& 31)) &&& 1)]) (by decide +kernel) (fun _ => rfl)).trans ?_
  refine (R_iconst (n := 1) (v := 1) (by decide +kernel) (by decide +kernel)).trans ?_
  refine (R_icmp_ne (off := 7) (t := 13) (by decide +kernel) (by decide +kernel)).trans (ite_congr rfl (fun c0 => ?_) (fun c0 => ?_))
  · refine (R_iconst (n := 1) (v := 1) (by decide +kernel) (by decide +kernel)).trans ?_
    refine (R_goto (off := 4) (t := 14) (by decide +kernel) (by decide +kernel)).trans ?_
    exact R_zreturn (by decide +kernel) (by decide +kernel) (by decide)
  · refine (R_iconst (n := 0) (v := 0) (by decide +kernel) (by decide +kernel)).trans ?_
    exact R_zreturn (by decide +kernel) (by decide +kernel) (by decide)
theorem s151 {L : Nat} {mi : Nat → Nat → Int32} {ml : Nat → Nat → Int64} {d : Nat} {Q : Option Value → xM → Prop} {x0 : Int32} : Xm 151 [.int x0] (SH L, mi, ml, MR) d Q =
    X 151 4 [.int x0, .int 0, .int x0] [] (SH L, mi, ml, MR) d Q := by
  rw [Xm_ent (n := 3) (loc := [.int x0, xmk, xmk]) (by decide +kernel) rfl]
  refine (R_iconst (n := 0) (v := 0) (by decide +kernel) (by decide +kernel)).trans ?_
  refine (R_pure0 (ins := .istore_n 1) (len := 1) (loc' := [.int x0, .int 0, xmk]) (st' := []) (by decide +kernel) (fun _ => rfl)).trans ?_
  refine (R_pure0 (ins := .iload_n 0) (len := 1) (loc' := [.int x0, .int 0, xmk]) (st' := [.int x0]) (by decide +kernel) (fun _ => rfl)).trans ?_
  refine (R_pure0 (ins := .istore_n 2) (len := 1) (loc' := [.int x0, .int 0, .int x0]) (st' := []) (by decide +kernel) (fun _ => rfl)).trans ?_
  rfl
theorem s151_4 {L : Nat} {mi : Nat → Nat → Int32} {ml : Nat → Nat → Int64} {d : Nat} {Q : Option Value → xM → Prop} {x0 x1 x2 : Int32} : X 151 4 [.int x0, .int x1, .int x2] [] (SH L, mi, ml, MR) d Q =
    if (x2 = 0) then (Q (some (.int x1)) (SH L, mi, ml, MR)) else (X 151 4 [.int x0, .int (x1 + 1), .int (x2 &&& (x2 - 1))] [] (SH L, mi, ml, MR) d Q) := by
  refine (R_pure0 (ins := .iload_n 2) (len := 1) (loc' := [.int x0, .int x1, .int x2]) (st' := [.int x2]) (by decide +kernel) (fun _ => rfl)).trans ?_
  refine (R_if_eq (off := 15) (t := 20) (by decide +kernel) (by decide +kernel)).trans (ite_congr rfl (fun c0 => ?_) (fun c0 => ?_))
  · refine (R_pure0 (ins := .iload_n 1) (len := 1) (loc' := [.int x0, .int x1, .int x2]) (st' := [.int x1]) (by decide +kernel) (fun _ => rfl)).trans ?_
    exact R_ireturn (by decide +kernel) (by decide +kernel)
  · refine (R_iinc (k := 1) (n := 1) (x := x1) (v := (x1 + 1)) (loc' := [.int x0, .int (x1 + 1), .int x2]) (by decide +kernel) rfl rfl rfl).trans ?_
    refine (R_pure0 (ins := .iload_n 2) (len := 1) (loc' := [.int x0, .int (x1 + 1), .int x2]) (st' := [.int x2]) (by decide +kernel) (fun _ => rfl)).trans ?_
    refine (R_pure0 (ins := .iload_n 2) (len := 1) (loc' := [.int x0, .int (x1 + 1), .int x2]) (st' := [.int x2, .int x2]) (by decide +kernel) (fun _ => rfl)).trans ?_
    refine (R_iconst (n := 1) (v := 1) (by decide +kernel) (by decide +kernel)).trans ?_
    refine (R_pure0 (ins := .isub) (len := 1) (loc' := [.int x0, .int (x1 + 1), .int x2]) (st' := [.int (x2 - 1), .int x2]) (by decide +kernel) (fun _ => rfl)).trans ?_
    refine (R_pure0 (ins := .iand) (len := 1) (loc' := [.int x0, .int (x1 + 1), .int x2]) (st' := [.int (x2 &&& (x2 - 1))]) (by decide +kernel) (fun _ => rfl)).trans ?_
    refine (R_pure0 (ins := .istore_n 2) (len := 1) (loc' := [.int x0, .int (x1 + 1), .int (x2 &&& (x2 - 1))]) (st' := []) (by decide +kernel) (fun _ => rfl)).trans ?_
    refine (R_goto (off := (-13)) (t := 4) (by decide +kernel) (by decide +kernel)).trans ?_
    rfl
theorem s152 {L : Nat} {mi : Nat → Nat → Int32} {ml : Nat → Nat → Int64} {d : Nat} {Q : Option Value → xM → Prop} {x1 : Int32} (h1 : xin x1 6 = true) (h2 : xin x1 6 = true) : Xm 152 [.ref 68, .int x1] (SH L, mi, ml, MR) d Q =
    Q (some (.int (-3))) (SH L, (xw (xw mi 68 17 x1) 81 x1.toNatClampNeg (((xw mi 68 17 x1) 81 x1.toNatClampNeg) + 1)), ml, MR) := by
  rw [Xm_ent (n := 2) (loc := [.ref 68, .int x1]) (by decide +kernel) rfl]
  refine (R_pure0 (ins := .aload_n 0) (len := 1) (loc' := [.ref 68, .int x1]) (st' := [.ref 68]) (by decide +kernel) (fun _ => rfl)).trans ?_
  refine (R_pure0 (ins := .iload_n 1) (len := 1) (loc' := [.ref 68, .int x1]) (st' := [.int x1, .ref 68]) (by decide +kernel) (fun _ => rfl)).trans ?_
  refine (R_pi (i := 78) (ci := 10) (k := 17) (n := 33) (by decide +kernel) (by decide +kernel) (by decide) rfl).trans ?_
  refine (R_pure0 (ins := .aload_n 0) (len := 1) (loc' := [.ref 68, .int x1]) (st' := [.ref 68]) (by decide +kernel) (fun _ => rfl)).trans ?_
  refine (R_gr (i := 51) (ci := 10) (k := 18) (n := 33) (b := 81) (by decide +kernel) (by decide +kernel) (by decide) rfl (SH_ref (by decide +kernel))).trans ?_
  refine (R_pure0 (ins := .iload_n 1) (len := 1) (loc' := [.ref 68, .int x1]) (st' := [.int x1, .ref 81]) (by decide +kernel) (fun _ => rfl)).trans ?_
  refine (R_pure0 (ins := .dup2) (len := 1) (loc' := [.ref 68, .int x1]) (st' := [.int x1, .ref 81, .int x1, .ref 81]) (by decide +kernel) (fun _ => rfl)).trans ?_
  refine (R_iaload (kd := 100) (n := 6) (by decide +kernel) rfl (by decide) (h1)).trans ?_
  refine (R_iconst (n := 1) (v := 1) (by decide +kernel) (by decide +kernel)).trans ?_
  refine (R_pure0 (ins := .iadd) (len := 1) (loc' := [.ref 68, .int x1]) (st' := [.int (((xw mi 68 17 x1) 81 x1.toNatClampNeg) + 1), .int x1, .ref 81]) (by decide +kernel) (fun _ => rfl)).trans ?_
  refine (R_iastore (n := 6) (by decide +kernel) rfl (h2)).trans ?_
  refine (R_bipush (n := (-3)) (v := (-3)) (by decide +kernel) (by decide +kernel)).trans ?_
  exact R_ireturn (by decide +kernel) (by decide +kernel)
theorem s153 {L : Nat} {mi : Nat → Nat → Int32} {ml : Nat → Nat → Int64} {d : Nat} {Q : Option Value → xM → Prop} {x1 : Int32} : Xm 153 [.ref 68, .int x1] (SH L, mi, ml, MR) d Q =
    Q (some (.int 1)) (SH L, (xw mi 68 14 x1), ml, MR) := by
  rw [Xm_ent (n := 2) (loc := [.ref 68, .int x1]) (by decide +kernel) rfl]
  refine (R_pure0 (ins := .aload_n 0) (len := 1) (loc' := [.ref 68, .int x1]) (st' := [.ref 68]) (by decide +kernel) (fun _ => rfl)).trans ?_
  refine (R_pure0 (ins := .iload_n 1) (len := 1) (loc' := [.ref 68, .int x1]) (st' := [.int x1, .ref 68]) (by decide +kernel) (fun _ => rfl)).trans ?_
  refine (R_pi (i := 82) (ci := 10) (k := 14) (n := 33) (by decide +kernel) (by decide +kernel) (by decide) rfl).trans ?_
  refine (R_iconst (n := 1) (v := 1) (by decide +kernel) (by decide +kernel)).trans ?_
  exact R_ireturn (by decide +kernel) (by decide +kernel)
theorem s154 {L : Nat} {mi : Nat → Nat → Int32} {ml : Nat → Nat → Int64} {d : Nat} {Q : Option Value → xM → Prop} {x1 x2 : Int32} : Xm 154 [.ref 68, .int x1, .int x2] (SH L, mi, ml, MR) d Q =
    Q (some (.int x1)) (SH L, (xw mi 68 14 x2), ml, MR) := by
  rw [Xm_ent (n := 3) (loc := [.ref 68, .int x1, .int x2]) (by decide +kernel) rfl]
  refine (R_pure0 (ins := .aload_n 0) (len := 1) (loc' := [.ref 68, .int x1, .int x2]) (st' := [.ref 68]) (by decide +kernel) (fun _ => rfl)).trans ?_
  refine (R_pure0 (ins := .iload_n 2) (len := 1) (loc' := [.ref 68, .int x1, .int x2]) (st' := [.int x2, .ref 68]) (by decide +kernel) (fun _ => rfl)).trans ?_
  refine (R_pi (i := 82) (ci := 10) (k := 14) (n := 33) (by decide +kernel) (by decide +kernel) (by decide) rfl).trans ?_
  refine (R_pure0 (ins := .iload_n 1) (len := 1) (loc' := [.ref 68, .int x1, .int x2]) (st' := [.int x1]) (by decide +kernel) (fun _ => rfl)).trans ?_
  exact R_ireturn (by decide +kernel) (by decide +kernel)
theorem s155 {L : Nat} {mi : Nat → Nat → Int32} {ml : Nat → Nat → Int64} {d : Nat} {Q : Option Value → xM → Prop} {x0 : Int32} : Xm 155 [.int x0] (SH L, mi, ml, MR) (d + 1) Q =
    Xm 149 [.long x0.toInt64, .long 0, .long 5] (SH L, mi, ml, MR) d (fun v μ' => X 155 9 [.int x0] (v.toList ++ []) μ' (d + 1) Q) := by
  rw [Xm_ent (n := 1) (loc := [.int x0]) (by decide +kernel) rfl]
  refine (R_pure0 (ins := .iload_n 0) (len := 1) (loc' := [.int x0]) (st' := [.int x0]) (by decide +kernel) (fun _ => rfl)).trans ?_
  refine (R_pure0 (ins := .i2l) (len := 1) (loc' := [.int x0]) (st' := [.long x0.toInt64]) (by decide +kernel) (fun _ => rfl)).trans ?_
  refine (R_lconst (n := 0) (v := 0) (by decide +kernel) (by decide +kernel)).trans ?_
  refine (R_ldc2 (i := 85) (v := 5) (by decide +kernel) (by decide +kernel)).trans ?_
  refine (R_static (i := 87) (f := 149) (kd := 2) (na := 3) (ml := 6) (As := [.long x0.toInt64, .long 0, .long 5]) (rest := []) (by decide +kernel) (by decide +kernel) (by decide) (by decide +kernel) rfl rfl (by decide +kernel) (Nat.le_of_ble_eq_true rfl)).trans ?_
  rfl
theorem s155_9 {L : Nat} {mi : Nat → Nat → Int32} {ml : Nat → Nat → Int64} {d : Nat} {Q : Option Value → xM → Prop} {x0 y : Int32} (h1 : (y = 0 ∨ y = 1)) : X 155 9 [.int x0] [.int y] (SH L, mi, ml, MR) d Q =
    Q (some (.int y)) (SH L, mi, ml, MR) := by
  exact R_zreturn (by decide +kernel) (by decide +kernel) (h1)
theorem s156 {L : Nat} {mi : Nat → Nat → Int32} {ml : Nat → Nat → Int64} {d : Nat} {Q : Option Value → xM → Prop} {x0 : Int32} : Xm 156 [.int x0] (SH L, mi, ml, MR) (d + 1) Q =
    Xm 149 [.long x0.toInt64, .long 0, .long 3] (SH L, mi, ml, MR) d (fun v μ' => X 156 9 [.int x0] (v.toList ++ []) μ' (d + 1) Q) := by
  rw [Xm_ent (n := 1) (loc := [.int x0]) (by decide +kernel) rfl]
  refine (R_pure0 (ins := .iload_n 0) (len := 1) (loc' := [.int x0]) (st' := [.int x0]) (by decide +kernel) (fun _ => rfl)).trans ?_
  refine (R_pure0 (ins := .i2l) (len := 1) (loc' := [.int x0]) (st' := [.long x0.toInt64]) (by decide +kernel) (fun _ => rfl)).trans ?_
  refine (R_lconst (n := 0) (v := 0) (by decide +kernel) (by decide +kernel)).trans ?_
  refine (R_ldc2 (i := 91) (v := 3) (by decide +kernel) (by decide +kernel)).trans ?_
  refine (R_static (i := 87) (f := 149) (kd := 2) (na := 3) (ml := 6) (As := [.long x0.toInt64, .long 0, .long 3]) (rest := []) (by decide +kernel) (by decide +kernel) (by decide) (by decide +kernel) rfl rfl (by decide +kernel) (Nat.le_of_ble_eq_true rfl)).trans ?_
  rfl
theorem s156_9 {L : Nat} {mi : Nat → Nat → Int32} {ml : Nat → Nat → Int64} {d : Nat} {Q : Option Value → xM → Prop} {x0 y : Int32} (h1 : (y = 0 ∨ y = 1)) : X 156 9 [.int x0] [.int y] (SH L, mi, ml, MR) d Q =
    Q (some (.int y)) (SH L, mi, ml, MR) := by
  exact R_zreturn (by decide +kernel) (by decide +kernel) (h1)
theorem s157 {L : Nat} {mi : Nat → Nat → Int32} {ml : Nat → Nat → Int64} {d : Nat} {Q : Option Value → xM → Prop} {x1 x2 : Int32} : Xm 157 [.ref 68, .int x1, .int x2] (SH L, mi, ml, MR) (d + 1) Q =
    Xm 155 [.int x1] (SH L, mi, ml, MR) d (fun v μ' => X 157 4 [.ref 68, .int x1, .int x2, xmk] (v.toList ++ []) μ' (d + 1) Q) := by
  rw [Xm_ent (n := 4) (loc := [.ref 68, .int x1, .int x2, xmk]) (by decide +kernel) rfl]
  refine (R_pure0 (ins := .iload_n 1) (len := 1) (loc' := [.ref 68, .int x1, .int x2, xmk]) (st' := [.int x1]) (by decide +kernel) (fun _ => rfl)).trans ?_
  refine (R_static (i := 93) (f := 155) (kd := 2) (na := 1) (ml := 1) (As := [.int x1]) (rest := []) (by decide +kernel) (by decide +kernel) (by decide) (by decide +kernel) rfl rfl (by decide +kernel) (Nat.le_of_ble_eq_true rfl)).trans ?_
  rfl
theorem s157_4 {L : Nat} {mi : Nat → Nat → Int32} {ml : Nat → Nat → Int64} {d : Nat} {Q : Option Value → xM → Prop} {x1 x2 y : Int32} (h1 : ¬ (y = 0) → ¬ ((40 : Int32) < x2) → ¬ (x2 < 0) → xin x1 6 = true) : X 157 4 [.ref 68, .int x1, .int x2, xmk] [.int y] (SH L, mi, ml, MR) (d + 1) Q =
    if (y = 0) then (Q (some (.int (-1))) (SH L, mi, ml, MR)) else (if ((40 : Int32) < x2) then (Q (some (.int (-1))) (SH L, mi, ml, MR)) else (if (x2 < 0) then (Xm 152 [.ref 68, .int 5] (SH L, mi, ml, MR) d (fun v μ' => X 157 24 [.ref 68, .int x1, .int x2, xmk] (v.toList ++ []) μ' (d + 1) Q)) else (X 157 34 [.ref 68, .int x1, .int x2, .int 0] [] (SH L, (xw mi 69 x1.toNatClampNeg x2), ml, MR) (d + 1) Q))) := by
  refine (R_if_eq (off := 9) (t := 13) (by decide +kernel) (by decide +kernel)).trans (ite_congr rfl (fun c0 => ?_) (fun c0 => ?_))
  · refine (R_iconst (n := (-1)) (v := (-1)) (by decide +kernel) (by decide +kernel)).trans ?_
    exact R_ireturn (by decide +kernel) (by decide +kernel)
  · refine (R_pure0 (ins := .iload_n 2) (len := 1) (loc' := [.ref 68, .int x1, .int x2, xmk]) (st' := [.int x2]) (by decide +kernel) (fun _ => rfl)).trans ?_
    refine (R_bipush (n := 40) (v := 40) (by decide +kernel) (by decide +kernel)).trans ?_
    refine (R_icmp_le (off := 5) (t := 15) (by decide +kernel) (by decide +kernel)).trans (ite_congr rfl (fun c1 => ?_) (fun c1 => ?_))
    · refine (R_iconst (n := (-1)) (v := (-1)) (by decide +kernel) (by decide +kernel)).trans ?_
      exact R_ireturn (by decide +kernel) (by decide +kernel)
    · refine (R_pure0 (ins := .iload_n 2) (len := 1) (loc' := [.ref 68, .int x1, .int x2, xmk]) (st' := [.int x2]) (by decide +kernel) (fun _ => rfl)).trans ?_
      refine (R_if_ge (off := 9) (t := 25) (by decide +kernel) (by decide +kernel)).trans (ite_congr rfl (fun c2 => ?_) (fun c2 => ?_))
      · refine (R_pure0 (ins := .aload_n 0) (len := 1) (loc' := [.ref 68, .int x1, .int x2, xmk]) (st' := [.ref 68]) (by decide +kernel) (fun _ => rfl)).trans ?_
        refine (R_iconst (n := 5) (v := 5) (by decide +kernel) (by decide +kernel)).trans ?_
        refine (R_virt (i := 97) (f := 152) (kd := 0) (na := 1) (ml := 2) (ci := 10) (n := 33) (b := 68) (As := [.int 5]) (rest := []) (by decide +kernel) (by decide +kernel) (by decide) (by decide +kernel) rfl (by decide +kernel) rfl rfl (by decide +kernel) (Nat.le_of_ble_eq_true rfl)).trans ?_
        rfl
      · refine (R_pure0 (ins := .aload_n 0) (len := 1) (loc' := [.ref 68, .int x1, .int x2, xmk]) (st' := [.ref 68]) (by decide +kernel) (fun _ => rfl)).trans ?_
        refine (R_gr (i := 7) (ci := 10) (k := 0) (n := 33) (b := 69) (by decide +kernel) (by decide +kernel) (by decide) rfl (SH_ref (by decide +kernel))).trans ?_
        refine (R_pure0 (ins := .iload_n 1) (len := 1) (loc' := [.ref 68, .int x1, .int x2, xmk]) (st' := [.int x1, .ref 69]) (by decide +kernel) (fun _ => rfl)).trans ?_
        refine (R_pure0 (ins := .iload_n 2) (len := 1) (loc' := [.ref 68, .int x1, .int x2, xmk]) (st' := [.int x2, .int x1, .ref 69]) (by decide +kernel) (fun _ => rfl)).trans ?_
        refine (R_iastore (n := 6) (by decide +kernel) rfl (h1 c0 c1 c2)).trans ?_
        refine (R_iconst (n := 0) (v := 0) (by decide +kernel) (by decide +kernel)).trans ?_
        refine (R_pure0 (ins := .istore_n 3) (len := 1) (loc' := [.ref 68, .int x1, .int x2, .int 0]) (st' := []) (by decide +kernel) (fun _ => rfl)).trans ?_
        rfl
theorem s157_24 {L : Nat} {mi : Nat → Nat → Int32} {ml : Nat → Nat → Int64} {d : Nat} {Q : Option Value → xM → Prop} {x1 x2 y : Int32} : X 157 24 [.ref 68, .int x1, .int x2, xmk] [.int y] (SH L, mi, ml, MR) d Q =
    Q (some (.int y)) (SH L, mi, ml, MR) := by
  exact R_ireturn (by decide +kernel) (by decide +kernel)
theorem s157_34 {L : Nat} {mi : Nat → Nat → Int32} {ml : Nat → Nat → Int64} {d : Nat} {Q : Option Value → xM → Prop} {x1 x2 x3 : Int32} (h1 : (x3 < 40) → xin ((40 * x1) + x3) 240 = true) : X 157 34 [.ref 68, .int x1, .int x2, .int x3] [] (SH L, mi, ml, MR) d Q =
    if (x3 < 40) then (X 157 34 [.ref 68, .int x1, .int x2, .int (x3 + 1)] [] (SH L, (xw mi 70 ((40 * x1) + x3).toNatClampNeg 0), ml, MR) d Q) else (Q (some (.int x2)) (SH L, mi, ml, MR)) := by
  refine (R_pure0 (ins := .iload_n 3) (len := 1) (loc' := [.ref 68, .int x1, .int x2, .int x3]) (st' := [.int x3]) (by decide +kernel) (fun _ => rfl)).trans ?_
  refine (R_bipush (n := 40) (v := 40) (by decide +kernel) (by decide +kernel)).trans ?_
  refine (R_icmp_ge (off := 21) (t := 58) (by decide +kernel) (by decide +kernel)).trans (ite_congr rfl (fun c0 => ?_) (fun c0 => ?_))
  · refine (R_pure0 (ins := .aload_n 0) (len := 1) (loc' := [.ref 68, .int x1, .int x2, .int x3]) (st' := [.ref 68]) (by decide +kernel) (fun _ => rfl)).trans ?_
    refine (R_gr (i := 13) (ci := 10) (k := 1) (n := 33) (b := 70) (by decide +kernel) (by decide +kernel) (by decide) rfl (SH_ref (by decide +kernel))).trans ?_
    refine (R_bipush (n := 40) (v := 40) (by decide +kernel) (by decide +kernel)).trans ?_
    refine (R_pure0 (ins := .iload_n 1) (len := 1) (loc' := [.ref 68, .int x1, .int x2, .int x3]) (st' := [.int x1, .int 40, .ref 70]) (by decide +kernel) (fun _ => rfl)).trans ?_
    refine (R_pure0 (ins := .imul) (len := 1) (loc' := [.ref 68, .int x1, .int x2, .int x3]) (st' := [.int (40 * x1), .ref 70]) (by decide +kernel) (fun _ => rfl)).trans ?_
    refine (R_pure0 (ins := .iload_n 3) (len := 1) (loc' := [.ref 68, .int x1, .int x2, .int x3]) (st' := [.int x3, .int (40 * x1), .ref 70]) (by decide +kernel) (fun _ => rfl)).trans ?_
    refine (R_pure0 (ins := .iadd) (len := 1) (loc' := [.ref 68, .int x1, .int x2, .int x3]) (st' := [.int ((40 * x1) + x3), .ref 70]) (by decide +kernel) (fun _ => rfl)).trans ?_
    refine (R_iconst (n := 0) (v := 0) (by decide +kernel) (by decide +kernel)).trans ?_
    refine (R_iastore (n := 240) (by decide +kernel) rfl (h1 c0)).trans ?_
    refine (R_iinc (k := 3) (n := 1) (x := x3) (v := (x3 + 1)) (loc' := [.ref 68, .int x1, .int x2, .int (x3 + 1)]) (by decide +kernel) rfl rfl rfl).trans ?_
    refine (R_goto (off := (-21)) (t := 34) (by decide +kernel) (by decide +kernel)).trans ?_
    rfl
  · refine (R_pure0 (ins := .iload_n 2) (len := 1) (loc' := [.ref 68, .int x1, .int x2, .int x3]) (st' := [.int x2]) (by decide +kernel) (fun _ => rfl)).trans ?_
    exact R_ireturn (by decide +kernel) (by decide +kernel)
theorem s158 {L : Nat} {mi : Nat → Nat → Int32} {ml : Nat → Nat → Int64} {d : Nat} {Q : Option Value → xM → Prop} {x1 x2 x3 : Int32} : Xm 158 [.ref 68, .int x1, .int x2, .int x3] (SH L, mi, ml, MR) (d + 1) Q =
    Xm 155 [.int x1] (SH L, mi, ml, MR) d (fun v μ' => X 158 4 [.ref 68, .int x1, .int x2, .int x3, xmk] (v.toList ++ []) μ' (d + 1) Q) := by
  rw [Xm_ent (n := 5) (loc := [.ref 68, .int x1, .int x2, .int x3, xmk]) (by decide +kernel) rfl]
  refine (R_pure0 (ins := .iload_n 1) (len := 1) (loc' := [.ref 68, .int x1, .int x2, .int x3, xmk]) (st' := [.int x1]) (by decide +kernel) (fun _ => rfl)).trans ?_
  refine (R_static (i := 93) (f := 155) (kd := 2) (na := 1) (ml := 1) (As := [.int x1]) (rest := []) (by decide +kernel) (by decide +kernel) (by decide) (by decide +kernel) rfl rfl (by decide +kernel) (Nat.le_of_ble_eq_true rfl)).trans ?_
  rfl
theorem s158_4 {L : Nat} {mi : Nat → Nat → Int32} {ml : Nat → Nat → Int64} {d : Nat} {Q : Option Value → xM → Prop} {x1 x2 x3 y : Int32} (h1 : ¬ (y = 0) → xin x1 6 = true) (h2 : ¬ (y = 0) → ¬ ((mi 69 x1.toNatClampNeg) < 0) → xin x1 6 = true) : X 158 4 [.ref 68, .int x1, .int x2, .int x3, xmk] [.int y] (SH L, mi, ml, MR) (d + 1) Q =
    if (y = 0) then (Q (some (.int (-1))) (SH L, mi, ml, MR)) else (if ((mi 69 x1.toNatClampNeg) < 0) then (Xm 152 [.ref 68, .int 1] (SH L, mi, ml, MR) d (fun v μ' => X 158 23 [.ref 68, .int x1, .int x2, .int x3, xmk] (v.toList ++ []) μ' (d + 1) Q)) else (Xm 149 [.long x2.toInt64, .long 0, .long ((mi 69 x1.toNatClampNeg) - 1).toInt64] (SH L, mi, ml, MR) d (fun v μ' => X 158 39 [.ref 68, .int x1, .int x2, .int x3, xmk] (v.toList ++ []) μ' (d + 1) Q))) := by
  refine (R_if_ne (off := 5) (t := 9) (by decide +kernel) (by decide +kernel)).trans (ite_congr rfl (fun c0 => ?_) (fun c0 => ?_))
  · refine (R_iconst (n := (-1)) (v := (-1)) (by decide +kernel) (by decide +kernel)).trans ?_
    exact R_ireturn (by decide +kernel) (by decide +kernel)
  · refine (R_pure0 (ins := .aload_n 0) (len := 1) (loc' := [.ref 68, .int x1, .int x2, .int x3, xmk]) (st' := [.ref 68]) (by decide +kernel) (fun _ => rfl)).trans ?_
    refine (R_gr (i := 7) (ci := 10) (k := 0) (n := 33) (b := 69) (by decide +kernel) (by decide +kernel) (by decide) rfl (SH_ref (by decide +kernel))).trans ?_
    refine (R_pure0 (ins := .iload_n 1) (len := 1) (loc' := [.ref 68, .int x1, .int x2, .int x3, xmk]) (st' := [.int x1, .ref 69]) (by decide +kernel) (fun _ => rfl)).trans ?_
    refine (R_iaload (kd := 100) (n := 6) (by decide +kernel) rfl (by decide) (h1 c0)).trans ?_
    refine (R_if_ge (off := 9) (t := 24) (by decide +kernel) (by decide +kernel)).trans (ite_congr rfl (fun c1 => ?_) (fun c1 => ?_))
    · refine (R_pure0 (ins := .aload_n 0) (len := 1) (loc' := [.ref 68, .int x1, .int x2, .int x3, xmk]) (st' := [.ref 68]) (by decide +kernel) (fun _ => rfl)).trans ?_
      refine (R_iconst (n := 1) (v := 1) (by decide +kernel) (by decide +kernel)).trans ?_
      refine (R_virt (i := 97) (f := 152) (kd := 0) (na := 1) (ml := 2) (ci := 10) (n := 33) (b := 68) (As := [.int 1]) (rest := []) (by decide +kernel) (by decide +kernel) (by decide) (by decide +kernel) rfl (by decide +kernel) rfl rfl (by decide +kernel) (Nat.le_of_ble_eq_true rfl)).trans ?_
      rfl
    · refine (R_pure0 (ins := .iload_n 2) (len := 1) (loc' := [.ref 68, .int x1, .int x2, .int x3, xmk]) (st' := [.int x2]) (by decide +kernel) (fun _ => rfl)).trans ?_
      refine (R_pure0 (ins := .i2l) (len := 1) (loc' := [.ref 68, .int x1, .int x2, .int x3, xmk]) (st' := [.long x2.toInt64]) (by decide +kernel) (fun _ => rfl)).trans ?_
      refine (R_lconst (n := 0) (v := 0) (by decide +kernel) (by decide +kernel)).trans ?_
      refine (R_pure0 (ins := .aload_n 0) (len := 1) (loc' := [.ref 68, .int x1, .int x2, .int x3, xmk]) (st' := [.ref 68, .long 0, .long x2.toInt64]) (by decide +kernel) (fun _ => rfl)).trans ?_
      refine (R_gr (i := 7) (ci := 10) (k := 0) (n := 33) (b := 69) (by decide +kernel) (by decide +kernel) (by decide) rfl (SH_ref (by decide +kernel))).trans ?_
      refine (R_pure0 (ins := .iload_n 1) (len := 1) (loc' := [.ref 68, .int x1, .int x2, .int x3, xmk]) (st' := [.int x1, .ref 69, .long 0, .long x2.toInt64]) (by decide +kernel) (fun _ => rfl)).trans ?_
      refine (R_iaload (kd := 100) (n := 6) (by decide +kernel) rfl (by decide) (h2 c0 c1)).trans ?_
      refine (R_iconst (n := 1) (v := 1) (by decide +kernel) (by decide +kernel)).trans ?_
      refine (R_pure0 (ins := .isub) (len := 1) (loc' := [.ref 68, .int x1, .int x2, .int x3, xmk]) (st' := [.int ((mi 69 x1.toNatClampNeg) - 1), .long 0, .long x2.toInt64]) (by decide +kernel) (fun _ => rfl)).trans ?_
      refine (R_pure0 (ins := .i2l) (len := 1) (loc' := [.ref 68, .int x1, .int x2, .int x3, xmk]) (st' := [.long ((mi 69 x1.toNatClampNeg) - 1).toInt64, .long 0, .long x2.toInt64]) (by decide +kernel) (fun _ => rfl)).trans ?_
      refine (R_static (i := 87) (f := 149) (kd := 2) (na := 3) (ml := 6) (As := [.long x2.toInt64, .long 0, .long ((mi 69 x1.toNatClampNeg) - 1).toInt64]) (rest := []) (by decide +kernel) (by decide +kernel) (by decide) (by decide +kernel) rfl rfl (by decide +kernel) (Nat.le_of_ble_eq_true rfl)).trans ?_
      rfl
theorem s158_23 {L : Nat} {mi : Nat → Nat → Int32} {ml : Nat → Nat → Int64} {d : Nat} {Q : Option Value → xM → Prop} {x1 x2 x3 y : Int32} : X 158 23 [.ref 68, .int x1, .int x2, .int x3, xmk] [.int y] (SH L, mi, ml, MR) d Q =
    Q (some (.int y)) (SH L, mi, ml, MR) := by
  exact R_ireturn (by decide +kernel) (by decide +kernel)
theorem s158_39 {L : Nat} {mi : Nat → Nat → Int32} {ml : Nat → Nat → Int64} {d : Nat} {Q : Option Value → xM → Prop} {x1 x2 x3 y : Int32} (h1 : ¬ (y = 0) → xin ((40 * x1) + x2) 240 = true) (h2 : ¬ (y = 0) → xin ((40 * x1) + x2) 240 = true) : X 158 39 [.ref 68, .int x1, .int x2, .int x3, xmk] [.int y] (SH L, mi, ml, MR) (d + 1) Q =
    if (y = 0) then (Xm 152 [.ref 68, .int 2] (SH L, mi, ml, MR) d (fun v μ' => X 158 47 [.ref 68, .int x1, .int x2, .int x3, xmk] (v.toList ++ []) μ' (d + 1) Q)) else (Xm 153 [.ref 68, .int (mi 70 ((40 * x1) + x2).toNatClampNeg)] (SH L, (xw mi 70 ((40 * x1) + x2).toNatClampNeg x3), ml, MR) d (fun v μ' => X 158 79 [.ref 68, .int x1, .int x2, .int x3, .int (mi 70 ((40 * x1) + x2).toNatClampNeg)] (v.toList ++ []) μ' (d + 1) Q)) := by
  refine (R_if_ne (off := 9) (t := 48) (by decide +kernel) (by decide +kernel)).trans (ite_congr rfl (fun c0 => ?_) (fun c0 => ?_))
  · refine (R_pure0 (ins := .aload_n 0) (len := 1) (loc' := [.ref 68, .int x1, .int x2, .int x3, xmk]) (st' := [.ref 68]) (by decide +kernel) (fun _ => rfl)).trans ?_
    refine (R_iconst (n := 2) (v := 2) (by decide +kernel) (by decide +kernel)).trans ?_
    refine (R_virt (i := 97) (f := 152) (kd := 0) (na := 1) (ml := 2) (ci := 10) (n := 33) (b := 68) (As := [.int 2]) (rest := []) (by decide +kernel) (by decide +kernel) (by decide) (by decide +kernel) rfl (by decide +kernel) rfl rfl (by decide +kernel) (Nat.le_of_ble_eq_true rfl)).trans ?_
    rfl
  · refine (R_pure0 (ins := .aload_n 0) (len := 1) (loc' := [.ref 68, .int x1, .int x2, .int x3, xmk]) (st' := [.ref 68]) (by decide +kernel) (fun _ => rfl)).trans ?_
    refine (R_gr (i := 13) (ci := 10) (k := 1) (n := 33) (b := 70) (by decide +kernel) (by decide +kernel) (by decide) rfl (SH_ref (by decide +kernel))).trans ?_
    refine (R_bipush (n := 40) (v := 40) (by decide +kernel) (by decide +kernel)).trans ?_
    refine (R_pure0 (ins := .iload_n 1) (len := 1) (loc' := [.ref 68, .int x1, .int x2, .int x3, xmk]) (st' := [.int x1, .int 40, .ref 70]) (by decide +kernel) (fun _ => rfl)).trans ?_
    refine (R_pure0 (ins := .imul) (len := 1) (loc' := [.ref 68, .int x1, .int x2, .int x3, xmk]) (st' := [.int (40 * x1), .ref 70]) (by decide +kernel) (fun _ => rfl)).trans ?_
    refine (R_pure0 (ins := .iload_n 2) (len := 1) (loc' := [.ref 68, .int x1, .int x2, .int x3, xmk]) (st' := [.int x2, .int (40 * x1), .ref 70]) (by decide +kernel) (fun _ => rfl)).trans ?_
    refine (R_pure0 (ins := .iadd) (len := 1) (loc' := [.ref 68, .int x1, .int x2, .int x3, xmk]) (st' := [.int ((40 * x1) + x2), .ref 70]) (by decide +kernel) (fun _ => rfl)).trans ?_
    refine (R_iaload (kd := 100) (n := 240) (by decide +kernel) rfl (by decide) (h1 c0)).trans ?_
    refine (R_pure0 (ins := .istore 4) (len := 2) (loc' := [.ref 68, .int x1, .int x2, .int x3, .int (mi 70 ((40 * x1) + x2).toNatClampNeg)]) (st' := []) (by decide +kernel) (fun _ => rfl)).trans ?_
    refine (R_pure0 (ins := .aload_n 0) (len := 1) (loc' := [.ref 68, .int x1, .int x2, .int x3, .int (mi 70 ((40 * x1) + x2).toNatClampNeg)]) (st' := [.ref 68]) (by decide +kernel) (fun _ => rfl)).trans ?_
    refine (R_gr (i := 13) (ci := 10) (k := 1) (n := 33) (b := 70) (by decide +kernel) (by decide +kernel) (by decide) rfl (SH_ref (by decide +kernel))).trans ?_
    refine (R_bipush (n := 40) (v := 40) (by decide +kernel) (by decide +kernel)).trans ?_
    refine (R_pure0 (ins := .iload_n 1) (len := 1) (loc' := [.ref 68, .int x1, .int x2, .int x3, .int (mi 70 ((40 * x1) + x2).toNatClampNeg)]) (st' := [.int x1, .int 40, .ref 70]) (by decide +kernel) (fun _ => rfl)).trans ?_
    refine (R_pure0 (ins := .imul) (len := 1) (loc' := [.ref 68, .int x1, .int x2, .int x3, .int (mi 70 ((40 * x1) + x2).toNatClampNeg)]) (st' := [.int (40 * x1), .ref 70]) (by decide +kernel) (fun _ => rfl)).trans ?_
    refine (R_pure0 (ins := .iload_n 2) (len := 1) (loc' := [.ref 68, .int x1, .int x2, .int x3, .int (mi 70 ((40 * x1) + x2).toNatClampNeg)]) (st' := [.int x2, .int (40 * x1), .ref 70]) (by decide +kernel) (fun _ => rfl)).trans ?_
    refine (R_pure0 (ins := .iadd) (len := 1) (loc' := [.ref 68, .int x1, .int x2, .int x3, .int (mi 70 ((40 * x1) + x2).toNatClampNeg)]) (st' := [.int ((40 * x1) + x2), .ref 70]) (by decide +kernel) (fun _ => rfl)).trans ?_
    refine (R_pure0 (ins := .iload_n 3) (len := 1) (loc' := [.ref 68, .int x1, .int x2, .int x3, .int (mi 70 ((40 * x1) + x2).toNatClampNeg)]) (st' := [.int x3, .int ((40 * x1) + x2), .ref 70]) (by decide +kernel) (fun _ => rfl)).trans ?_
    refine (R_iastore (n := 240) (by decide +kernel) rfl (h2 c0)).trans ?_
    refine (R_pure0 (ins := .aload_n 0) (len := 1) (loc' := [.ref 68, .int x1, .int x2, .int x3, .int (mi 70 ((40 * x1) + x2).toNatClampNeg)]) (st' := [.ref 68]) (by decide +kernel) (fun _ => rfl)).trans ?_
    refine (R_pure0 (ins := .iload 4) (len := 2) (loc' := [.ref 68, .int x1, .int x2, .int x3, .int (mi 70 ((40 * x1) + x2).toNatClampNeg)]) (st' := [.int (mi 70 ((40 * x1) + x2).toNatClampNeg), .ref 68]) (by decide +kernel) (fun _ => rfl)).trans ?_
    refine (R_virt (i := 101) (f := 153) (kd := 0) (na := 1) (ml := 2) (ci := 10) (n := 33) (b := 68) (As := [.int (mi 70 ((40 * x1) + x2).toNatClampNeg)]) (rest := []) (by decide +kernel) (by decide +kernel) (by decide) (by decide +kernel) rfl (by decide +kernel) rfl rfl (by decide +kernel) (Nat.le_of_ble_eq_true rfl)).trans ?_
    rfl
theorem s158_47 {L : Nat} {mi : Nat → Nat → Int32} {ml : Nat → Nat → Int64} {d : Nat} {Q : Option Value → xM → Prop} {x1 x2 x3 y : Int32} : X 158 47 [.ref 68, .int x1, .int x2, .int x3, xmk] [.int y] (SH L, mi, ml, MR) d Q =
    Q (some (.int y)) (SH L, mi, ml, MR) := by
  exact R_ireturn (by decide +kernel) (by decide +kernel)
theorem s158_79 {L : Nat} {mi : Nat → Nat → Int32} {ml : Nat → Nat → Int64} {d : Nat} {Q : Option Value → xM → Prop} {x1 x2 x3 x4 y : Int32} : X 158 79 [.ref 68, .int x1, .int x2, .int x3, .int x4] [.int y] (SH L, mi, ml, MR) d Q =
    Q (some (.int y)) (SH L, mi, ml, MR) := by
  exact R_ireturn (by decide +kernel) (by decide +kernel)
theorem s159 {L : Nat} {mi : Nat → Nat → Int32} {ml : Nat → Nat → Int64} {d : Nat} {Q : Option Value → xM → Prop} {x1 x2 : Int32} : Xm 159 [.ref 68, .int x1, .int x2] (SH L, mi, ml, MR) (d + 1) Q =
    Xm 155 [.int x1] (SH L, mi, ml, MR) d (fun v μ' => X 159 4 [.ref 68, .int x1, .int x2] (v.toList ++ []) μ' (d + 1) Q) := by
  rw [Xm_ent (n := 3) (loc := [.ref 68, .int x1, .int x2]) (by decide +kernel) rfl]
  refine (R_pure0 (ins := .iload_n 1) (len := 1) (loc' := [.ref 68, .int x1, .int x2]) (st' := [.int x1]) (by decide +kernel) (fun _ => rfl)).trans ?_
  refine (R_static (i := 93) (f := 155) (kd := 2) (na := 1) (ml := 1) (As := [.int x1]) (rest := []) (by decide +kernel) (by decide +kernel) (by decide) (by decide +kernel) rfl rfl (by decide +kernel) (Nat.le_of_ble_eq_true rfl)).trans ?_
  rfl
theorem s159_4 {L : Nat} {mi : Nat → Nat → Int32} {ml : Nat → Nat → Int64} {d : Nat} {Q : Option Value → xM → Prop} {x1 x2 y : Int32} (h1 : ¬ (y = 0) → xin x1 6 = true) (h2 : ¬ (y = 0) → ¬ ((mi 69 x1.toNatClampNeg) < 0) → xin x1 6 = true) : X 159 4 [.ref 68, .int x1, .int x2] [.int y] (SH L, mi, ml, MR) (d + 1) Q =
    if (y = 0) then (Q (some (.int (-1))) (SH L, mi, ml, MR)) else (if ((mi 69 x1.toNatClampNeg) < 0) then (Xm 152 [.ref 68, .int 1] (SH L, mi, ml, MR) d (fun v μ' => X 159 23 [.ref 68, .int x1, .int x2] (v.toList ++ []) μ' (d + 1) Q)) else (Xm 149 [.long x2.toInt64, .long 0, .long ((mi 69 x1.toNatClampNeg) - 1).toInt64] (SH L, mi, ml, MR) d (fun v μ' => X 159 39 [.ref 68, .int x1, .int x2] (v.toList ++ []) μ' (d + 1) Q))) := by
  refine (R_if_ne (off := 5) (t := 9) (by decide +kernel) (by decide +kernel)).trans (ite_congr rfl (fun c0 => ?_) (fun c0 => ?_))
  · refine (R_iconst (n := (-1)) (v := (-1)) (by decide +kernel) (by decide +kernel)).trans ?_
    exact R_ireturn (by decide +kernel) (by decide +kernel)
  · refine (R_pure0 (ins := .aload_n 0) (len := 1) (loc' := [.ref 68, .int x1, .int x2]) (st' := [.ref 68]) (by decide +kernel) (fun _ => rfl)).trans ?_
    refine (R_gr (i := 7) (ci := 10) (k := 0) (n := 33) (b := 69) (by decide +kernel) (by decide +kernel) (by decide) rfl (SH_ref (by decide +kernel))).trans ?_
    refine (R_pure0 (ins := .iload_n 1) (len := 1) (loc' := [.ref 68, .int x1, .int x2]) (st' := [.int x1, .ref 69]) (by decide +kernel) (fun _ => rfl)).trans ?_
    refine (R_iaload (kd := 100) (n := 6) (by decide +kernel) rfl (by decide) (h1 c0)).trans ?_
    refine (R_if_ge (off := 9) (t := 24) (by decide +kernel) (by decide +kernel)).trans (ite_congr rfl (fun c1 => ?_) (fun c1 => ?_))
    · refine (R_pure0 (ins := .aload_n 0) (len := 1) (loc' := [.ref 68, .int x1, .int x2]) (st' := [.ref 68]) (by decide +kernel) (fun _ => rfl)).trans ?_
      refine (R_iconst (n := 1) (v := 1) (by decide +kernel) (by decide +kernel)).trans ?_
      refine (R_virt (i := 97) (f := 152) (kd := 0) (na := 1) (ml := 2) (ci := 10) (n := 33) (b := 68) (As := [.int 1]) (rest := []) (by decide +kernel) (by decide +kernel) (by decide) (by decide +kernel) rfl (by decide +kernel) rfl rfl (by decide +kernel) (Nat.le_of_ble_eq_true rfl)).trans ?_
      rfl
    · refine (R_pure0 (ins := .iload_n 2) (len := 1) (loc' := [.ref 68, .int x1, .int x2]) (st' := [.int x2]) (by decide +kernel) (fun _ => rfl)).trans ?_
      refine (R_pure0 (ins := .i2l) (len := 1) (loc' := [.ref 68, .int x1, .int x2]) (st' := [.long x2.toInt64]) (by decide +kernel) (fun _ => rfl)).trans ?_
      refine (R_lconst (n := 0) (v := 0) (by decide +kernel) (by decide +kernel)).trans ?_
      refine (R_pure0 (ins := .aload_n 0) (len := 1) (loc' := [.ref 68, .int x1, .int x2]) (st' := [.ref 68, .long 0, .long x2.toInt64]) (by decide +kernel) (fun _ => rfl)).trans ?_
      refine (R_gr (i := 7) (ci := 10) (k := 0) (n := 33) (b := 69) (by decide +kernel) (by decide +kernel) (by decide) rfl (SH_ref (by decide +kernel))).trans ?_
      refine (R_pure0 (ins := .iload_n 1) (len := 1) (loc' := [.ref 68, .int x1, .int x2]) (st' := [.int x1, .ref 69, .long 0, .long x2.toInt64]) (by decide +kernel) (fun _ => rfl)).trans ?_
      refine (R_iaload (kd := 100) (n := 6) (by decide +kernel) rfl (by decide) (h2 c0 c1)).trans ?_
      refine (R_iconst (n := 1) (v := 1) (by decide +kernel) (by decide +kernel)).trans ?_
      refine (R_pure0 (ins := .isub) (len := 1) (loc' := [.ref 68, .int x1, .int x2]) (st' := [.int ((mi 69 x1.toNatClampNeg) - 1), .long 0, .long x2.toInt64]) (by decide +kernel) (fun _ => rfl)).trans ?_
      refine (R_pure0 (ins := .i2l) (len := 1) (loc' := [.ref 68, .int x1, .int x2]) (st' := [.long ((mi 69 x1.toNatClampNeg) - 1).toInt64, .long 0, .long x2.toInt64]) (by decide +kernel) (fun _ => rfl)).trans ?_
      refine (R_static (i := 87) (f := 149) (kd := 2) (na := 3) (ml := 6) (As := [.long x2.toInt64, .long 0, .long ((mi 69 x1.toNatClampNeg) - 1).toInt64]) (rest := []) (by decide +kernel) (by decide +kernel) (by decide) (by decide +kernel) rfl rfl (by decide +kernel) (Nat.le_of_ble_eq_true rfl)).trans ?_
      rfl
theorem s159_23 {L : Nat} {mi : Nat → Nat → Int32} {ml : Nat → Nat → Int64} {d : Nat} {Q : Option Value → xM → Prop} {x1 x2 y : Int32} : X 159 23 [.ref 68, .int x1, .int x2] [.int y] (SH L, mi, ml, MR) d Q =
    Q (some (.int y)) (SH L, mi, ml, MR) := by
  exact R_ireturn (by decide +kernel) (by decide +kernel)
theorem s159_39 {L : Nat} {mi : Nat → Nat → Int32} {ml : Nat → Nat → Int64} {d : Nat} {Q : Option Value → xM → Prop} {x1 x2 y : Int32} (h1 : ¬ (y = 0) → xin ((40 * x1) + x2) 240 = true) : X 159 39 [.ref 68, .int x1, .int x2] [.int y] (SH L, mi, ml, MR) (d + 1) Q =
    if (y = 0) then (Xm 152 [.ref 68, .int 2] (SH L, mi, ml, MR) d (fun v μ' => X 159 65 [.ref 68, .int x1, .int x2] (v.toList ++ []) μ' (d + 1) Q)) else (Xm 153 [.ref 68, .int (mi 70 ((40 * x1) + x2).toNatClampNeg)] (SH L, mi, ml, MR) d (fun v μ' => X 159 57 [.ref 68, .int x1, .int x2] (v.toList ++ []) μ' (d + 1) Q)) := by
  refine (R_if_eq (off := 21) (t := 60) (by decide +kernel) (by decide +kernel)).trans (ite_congr rfl (fun c0 => ?_) (fun c0 => ?_))
  · refine (R_pure0 (ins := .aload_n 0) (len := 1) (loc' := [.ref 68, .int x1, .int x2]) (st' := [.ref 68]) (by decide +kernel) (fun _ => rfl)).trans ?_
    refine (R_iconst (n := 2) (v := 2) (by decide +kernel) (by decide +kernel)).trans ?_
    refine (R_virt (i := 97) (f := 152) (kd := 0) (na := 1) (ml := 2) (ci := 10) (n := 33) (b := 68) (As := [.int 2]) (rest := []) (by decide +kernel) (by decide +kernel) (by decide) (by decide +kernel) rfl (by decide +kernel) rfl rfl (by decide +kernel) (Nat.le_of_ble_eq_true rfl)).trans ?_
    rfl
  · refine (R_pure0 (ins := .aload_n 0) (len := 1) (loc' := [.ref 68, .int x1, .int x2]) (st' := [.ref 68]) (by decide +kernel) (fun _ => rfl)).trans ?_
    refine (R_pure0 (ins := .aload_n 0) (len := 1) (loc' := [.ref 68, .int x1, .int x2]) (st' := [.ref 68, .ref 68]) (by decide +kernel) (fun _ => rfl)).trans ?_
    refine (R_gr (i := 13) (ci := 10) (k := 1) (n := 33) (b := 70) (by decide +kernel) (by decide +kernel) (by decide) rfl (SH_ref (by decide +kernel))).trans ?_
    refine (R_bipush (n := 40) (v := 40) (by decide +kernel) (by decide +kernel)).trans ?_
    refine (R_pure0 (ins := .iload_n 1) (len := 1) (loc' := [.ref 68, .int x1, .int x2]) (st' := [.int x1, .int 40, .ref 70, .ref 68]) (by decide +kernel) (fun _ => rfl)).trans ?_
    refine (R_pure0 (ins := .imul) (len := 1) (loc' := [.ref 68, .int x1, .int x2]) (st' := [.int (40 * x1), .ref 70, .ref 68]) (by decide +kernel) (fun _ => rfl)).trans ?_
    refine (R_pure0 (ins := .iload_n 2) (len := 1) (loc' := [.ref 68, .int x1, .int x2]) (st' := [.int x2, .int (40 * x1), .ref 70, .ref 68]) (by decide +kernel) (fun _ => rfl)).trans ?_
    refine (R_pure0 (ins := .iadd) (len := 1) (loc' := [.ref 68, .int x1, .int x2]) (st' := [.int ((40 * x1) + x2), .ref 70, .ref 68]) (by decide +kernel) (fun _ => rfl)).trans ?_
    refine (R_iaload (kd := 100) (n := 240) (by decide +kernel) rfl (by decide) (h1 c0)).trans ?_
    refine (R_virt (i := 101) (f := 153) (kd := 0) (na := 1) (ml := 2) (ci := 10) (n := 33) (b := 68) (As := [.int (mi 70 ((40 * x1) + x2).toNatClampNeg)]) (rest := []) (by decide +kernel) (by decide +kernel) (by decide) (by decide +kernel) rfl (by decide +kernel) rfl rfl (by decide +kernel) (Nat.le_of_ble_eq_true rfl)).trans ?_
    rfl
theorem s159_65 {L : Nat} {mi : Nat → Nat → Int32} {ml : Nat → Nat → Int64} {d : Nat} {Q : Option Value → xM → Prop} {x1 x2 y : Int32} : X 159 65 [.ref 68, .int x1, .int x2] [.int y] (SH L, mi, ml, MR) d Q =
    Q (some (.int y)) (SH L, mi, ml, MR) := by
  exact R_ireturn (by decide +kernel) (by decide +kernel)
theorem s159_57 {L : Nat} {mi : Nat → Nat → Int32} {ml : Nat → Nat → Int64} {d : Nat} {Q : Option Value → xM → Prop} {x1 x2 y : Int32} : X 159 57 [.ref 68, .int x1, .int x2] [.int y] (SH L, mi, ml, MR) d Q =
    Q (some (.int y)) (SH L, mi, ml, MR) := by
  refine (R_goto (off := 8) (t := 65) (by decide +kernel) (by decide +kernel)).trans ?_
  exact R_ireturn (by decide +kernel) (by decide +kernel)
theorem s160 {L : Nat} {mi : Nat → Nat → Int32} {ml : Nat → Nat → Int64} {d : Nat} {Q : Option Value → xM → Prop} {x1 : Int32} : Xm 160 [.ref 68, .int x1] (SH L, mi, ml, MR) (d + 1) Q =
    Xm 155 [.int x1] (SH L, mi, ml, MR) d (fun v μ' => X 160 4 [.ref 68, .int x1] (v.toList ++ []) μ' (d + 1) Q) := by
  rw [Xm_ent (n := 2) (loc := [.ref 68, .int x1]) (by decide +kernel) rfl]
  refine (R_pure0 (ins := .iload_n 1) (len := 1) (loc' := [.ref 68, .int x1]) (st' := [.int x1]) (by decide +kernel) (fun _ => rfl)).trans ?_
  refine (R_static (i := 93) (f := 155) (kd := 2) (na := 1) (ml := 1) (As := [.int x1]) (rest := []) (by decide +kernel) (by decide +kernel) (by decide) (by decide +kernel) rfl rfl (by decide +kernel) (Nat.le_of_ble_eq_true rfl)).trans ?_
  rfl
theorem s160_4 {L : Nat} {mi : Nat → Nat → Int32} {ml : Nat → Nat → Int64} {d : Nat} {Q : Option Value → xM → Prop} {x1 y : Int32} (h1 : ¬ (y = 0) → xin x1 6 = true) (h2 : ¬ (y = 0) → ¬ ((mi 69 x1.toNatClampNeg) < 0) → xin x1 6 = true) : X 160 4 [.ref 68, .int x1] [.int y] (SH L, mi, ml, MR) (d + 1) Q =
    if (y = 0) then (Q (some (.int (-1))) (SH L, mi, ml, MR)) else (if ((mi 69 x1.toNatClampNeg) < 0) then (Xm 152 [.ref 68, .int 1] (SH L, mi, ml, MR) d (fun v μ' => X 160 23 [.ref 68, .int x1] (v.toList ++ []) μ' (d + 1) Q)) else (Q (some (.int 1)) (SH L, (xw mi 69 x1.toNatClampNeg (-1)), ml, MR))) := by
  refine (R_if_ne (off := 5) (t := 9) (by decide +kernel) (by decide +kernel)).trans (ite_congr rfl (fun c0 => ?_) (fun c0 => ?_))
  · refine (R_iconst (n := (-1)) (v := (-1)) (by decide +kernel) (by decide +kernel)).trans ?_
    exact R_ireturn (by decide +kernel) (by decide +kernel)
  · refine (R_pure0 (ins := .aload_n 0) (len := 1) (loc' := [.ref 68, .int x1]) (st' := [.ref 68]) (by decide +kernel) (fun _ => rfl)).trans ?_
    refine (R_gr (i := 7) (ci := 10) (k := 0) (n := 33) (b := 69) (by decide +kernel) (by decide +kernel) (by decide) rfl (SH_ref (by decide +kernel))).trans ?_
    refine (R_pure0 (ins := .iload_n 1) (len := 1) (loc' := [.ref 68, .int x1]) (st' := [.int x1, .ref 69]) (by decide +kernel) (fun _ => rfl)).trans ?_
    refine (R_iaload (kd := 100) (n := 6) (by decide +kernel) rfl (by decide) (h1 c0)).trans ?_
    refine (R_if_ge (off := 9) (t := 24) (by decide +kernel) (by decide +kernel)).trans (ite_congr rfl (fun c1 => ?_) (fun c1 => ?_))
    · refine (R_pure0 (ins := .aload_n 0) (len := 1) (loc' := [.ref 68, .int x1]) (st' := [.ref 68]) (by decide +kernel) (fun _ => rfl)).trans ?_
      refine (R_iconst (n := 1) (v := 1) (by decide +kernel) (by decide +kernel)).trans ?_
      refine (R_virt (i := 97) (f := 152) (kd := 0) (na := 1) (ml := 2) (ci := 10) (n := 33) (b := 68) (As := [.int 1]) (rest := []) (by decide +kernel) (by decide +kernel) (by decide) (by decide +kernel) rfl (by decide +kernel) rfl rfl (by decide +kernel) (Nat.le_of_ble_eq_true rfl)).trans ?_
      rfl
    · refine (R_pure0 (ins := .aload_n 0) (len := 1) (loc' := [.ref 68, .int x1]) (st' := [.ref 68]) (by decide +kernel) (fun _ => rfl)).trans ?_
      refine (R_gr (i := 7) (ci := 10) (k := 0) (n := 33) (b := 69) (by decide +kernel) (by decide +kernel) (by decide) rfl (SH_ref (by decide +kernel))).trans ?_
      refine (R_pure0 (ins := .iload_n 1) (len := 1) (loc' := [.ref 68, .int x1]) (st' := [.int x1, .ref 69]) (by decide +kernel) (fun _ => rfl)).trans ?_
      refine (R_iconst (n := (-1)) (v := (-1)) (by decide +kernel) (by decide +kernel)).trans ?_
      refine (R_iastore (n := 6) (by decide +kernel) rfl (h2 c0 c1)).trans ?_
      refine (R_iconst (n := 1) (v := 1) (by decide +kernel) (by decide +kernel)).trans ?_
      exact R_ireturn (by decide +kernel) (by decide +kernel)
theorem s160_23 {L : Nat} {mi : Nat → Nat → Int32} {ml : Nat → Nat → Int64} {d : Nat} {Q : Option Value → xM → Prop} {x1 y : Int32} : X 160 23 [.ref 68, .int x1] [.int y] (SH L, mi, ml, MR) d Q =
    Q (some (.int y)) (SH L, mi, ml, MR) := by
  exact R_ireturn (by decide +kernel) (by decide +kernel)
theorem s161 {L : Nat} {mi : Nat → Nat → Int32} {ml : Nat → Nat → Int64} {d : Nat} {Q : Option Value → xM → Prop} {x1 x2 x3 x4 x5 : Int32} : Xm 161 [.ref 68, .int x1, .int x2, .int x3, .int x4, .int x5] (SH L, mi, ml, MR) (d + 1) Q =
    Xm 155 [.int x1] (SH L, mi, ml, MR) d (fun v μ' => X 161 4 [.ref 68, .int x1, .int x2, .int x3, .int x4, .int x5, xmk, xmk] (v.toList ++ []) μ' (d + 1) Q) := by
  rw [Xm_ent (n := 8) (loc := [.ref 68, .int x1, .int x2, .int x3, .int x4, .int x5, xmk, xmk]) (by decide +kernel) rfl]
  refine (R_pure0 (ins := .iload_n 1) (len := 1) (loc' := [.ref 68, .int x1, .int x2, .int x3, .int x4, .int x5, xmk, xmk]) (st' := [.int x1]) (by decide +kernel) (fun _ => rfl)).trans ?_
  refine (R_static (i := 93) (f := 155) (kd := 2) (na := 1) (ml := 1) (As := [.int x1]) (rest := []) (by decide +kernel) (by decide +kernel) (by decide) (by decide +kernel) rfl rfl (by decide +kernel) (Nat.le_of_ble_eq_true rfl)).trans ?_
  rfl
theorem s161_4 {L : Nat} {mi : Nat → Nat → Int32} {ml : Nat → Nat → Int64} {d : Nat} {Q : Option Value → xM → Prop} {x1 x2 x3 x4 x5 y : Int32} : X 161 4 [.ref 68, .int x1, .int x2, .int x3, .int x4, .int x5, xmk, xmk] [.int y] (SH L, mi, ml, MR) (d + 1) Q =
    if (y = 0) then (Q (some (.int (-1))) (SH L, mi, ml, MR)) else (Xm 155 [.int x3] (SH L, mi, ml, MR) d (fun v μ' => X 161 11 [.ref 68, .int x1, .int x2, .int x3, .int x4, .int x5, xmk, xmk] (v.toList ++ []) μ' (d + 1) Q)) := by
  refine (R_if_eq (off := 10) (t := 14) (by decide +kernel) (by decide +kernel)).trans (ite_congr rfl (fun c0 => ?_) (fun c0 => ?_))
  · refine (R_iconst (n := (-1)) (v := (-1)) (by decide +kernel) (by decide +kernel)).trans ?_
    exact R_ireturn (by decide +kernel) (by decide +kernel)
  · refine (R_pure0 (ins := .iload_n 3) (len := 1) (loc' := [.ref 68, .int x1, .int x2, .int x3, .int x4, .int x5, xmk, xmk]) (st' := [.int x3]) (by decide +kernel) (fun _ => rfl)).trans ?_
    refine (R_static (i := 93) (f := 155) (kd := 2) (na := 1) (ml := 1) (As := [.int x3]) (rest := []) (by decide +kernel) (by decide +kernel) (by decide) (by decide +kernel) rfl rfl (by decide +kernel) (Nat.le_of_ble_eq_true rfl)).trans ?_
    rfl
theorem s161_11 {L : Nat} {mi : Nat → Nat → Int32} {ml : Nat → Nat → Int64} {d : Nat} {Q : Option Value → xM → Prop} {x1 x2 x3 x4 x5 y : Int32} (h1 : ¬ (y = 0) → ¬ (x5 < 0) → xin x1 6 = true) (h2 : ¬ (y = 0) → ¬ (x5 < 0) → ¬ ((mi 69 x1.toNatClampNeg) < 0) → xin x3 6 = true) (h3 : ¬ (y = 0) → ¬ (x5 < 0) → ¬ ((mi 69 x1.toNatClampNeg) < 0) → ¬ ((mi 69 x3.toNatClampNeg) < 0) → ¬ (x2 < 0) → ¬ (x4 < 0) → xin x1 6 = true) (h4 : ¬ (y = 0) → ¬ (x5 < 0) → ¬ ((mi 69 x1.toNatClampNeg) < 0) → ¬ ((mi 69 x3.toNatClampNeg) < 0) → ¬ (x2 < 0) → ¬ (x4 < 0) → ¬ ((0 : Int32) < (lg_cmp (x2.toInt64 + x5.toInt64) (mi 69 x1.toNatClampNeg).toInt64)) → xin x3 6 = true) : X 161 11 [.ref 68, .int x1, .int x2, .int x3, .int x4, .int x5, xmk, xmk] [.int y] (SH L, mi, ml, MR) (d + 1) Q =
    if (y = 0) then (Q (some (.int (-1))) (SH L, mi, ml, MR)) else (if (x5 < 0) then (Xm 152 [.ref 68, .int 5] (SH L, mi, ml, MR) d (fun v μ' => X 161 26 [.ref 68, .int x1, .int x2, .int x3, .int x4, .int x5, xmk, xmk] (v.toList ++ []) μ' (d + 1) Q)) else (if ((mi 69 x1.toNatClampNeg) < 0) then (Xm 152 [.ref 68, .int 1] (SH L, mi, ml, MR) d (fun v μ' => X 161 50 [.ref 68, .int x1, .int x2, .int x3, .int x4, .int x5, xmk, xmk] (v.toList ++ []) μ' (d + 1) Q)) else (if ((mi 69 x3.toNatClampNeg) < 0) then (Xm 152 [.ref 68, .int 1] (SH L, mi, ml, MR) d (fun v μ' => X 161 50 [.ref 68, .int x1, .int x2, .int x3, .int x4, .int x5, xmk, xmk] (v.toList ++ []) μ' (d + 1) Q)) else (if (x2 < 0) then (Xm 152 [.ref 68, .int 2] (SH L, mi, ml, MR) d (fun v μ' => X 161 100 [.ref 68, .int x1, .int x2, .int x3, .int x4, .int x5, xmk, xmk] (v.toList ++ []) μ' (d + 1) Q)) else (if (x4 < 0) then (Xm 152 [.ref 68, .int 2] (SH L, mi, ml, MR) d (fun v μ' => X 161 100 [.ref 68, .int x1, .int x2, .int x3, .int x4, .int x5, xmk, xmk] (v.toList ++ []) μ' (d + 1) Q)) else (if ((0 : Int32) < (lg_cmp (x2.toInt64 + x5.toInt64) (mi 69 x1.toNatClampNeg).toInt64)) then (Xm 152 [.ref 68, .int 2] (SH L, mi, ml, MR) d (fun v μ' => X 161 100 [.ref 68, .int x1, .int x2, .int x3, .int x4, .int x5, xmk, xmk] (v.toList ++ []) μ' (d + 1) Q)) else (if ((0 : Int32) < (lg_cmp (x4.toInt64 + x5.toInt64) (mi 69 x3.toNatClampNeg).toInt64)) then (Xm 152 [.ref 68, .int 2] (SH L, mi, ml, MR) d (fun v μ' => X 161 100 [.ref 68, .int x1, .int x2, .int x3, .int x4, .int x5, xmk, xmk] (v.toList ++ []) μ' (d + 1) Q)) else (X 161 104 [.ref 68, .int x1, .int x2, .int x3, .int x4, .int x5, .int 0, xmk] [] (SH L, mi, ml, MR) (d + 1) Q)))))))) := by
  refine (R_if_ne (off := 5) (t := 16) (by decide +kernel) (by decide +kernel)).trans (ite_congr rfl (fun c0 => ?_) (fun c0 => ?_))
  · refine (R_iconst (n := (-1)) (v := (-1)) (by decide +kernel) (by decide +kernel)).trans ?_
    exact R_ireturn (by decide +kernel) (by decide +kernel)
  · refine (R_pure0 (ins := .iload 5) (len := 2) (loc' := [.ref 68, .int x1, .int x2, .int x3, .int x4, .int x5, xmk, xmk]) (st' := [.int x5]) (by decide +kernel) (fun _ => rfl)).trans ?_
    refine (R_if_ge (off := 9) (t := 27) (by decide +kernel) (by decide +kernel)).trans (ite_congr rfl (fun c1 => ?_) (fun c1 => ?_))
    · refine (R_pure0 (ins := .aload_n 0) (len := 1) (loc' := [.ref 68, .int x1, .int x2, .int x3, .int x4, .int x5, xmk, xmk]) (st' := [.ref 68]) (by decide +kernel) (fun _ => rfl)).trans ?_
      refine (R_iconst (n := 5) (v := 5) (by decide +kernel) (by decide +kernel)).trans ?_
      refine (R_virt (i := 97) (f := 152) (kd := 0) (na := 1) (ml := 2) (ci := 10) (n := 33) (b := 68) (As := [.int 5]) (rest := []) (by decide +kernel) (by decide +kernel) (by decide) (by decide +kernel) rfl (by decide +kernel) rfl rfl (by decide +kernel) (Nat.le_of_ble_eq_true rfl)).trans ?_
      rfl
    · refine (R_pure0 (ins := .aload_n 0) (len := 1) (loc' := [.ref 68, .int x1, .int x2, .int x3, .int x4, .int x5, xmk, xmk]) (st' := [.ref 68]) (by decide +kernel) (fun _ => rfl)).trans ?_
      refine (R_gr (i := 7) (ci := 10) (k := 0) (n := 33) (b := 69) (by decide +kernel) (by decide +kernel) (by decide) rfl (SH_ref (by decide +kernel))).trans ?_
      refine (R_pure0 (ins := .iload_n 1) (len := 1) (loc' := [.ref 68, .int x1, .int x2, .int x3, .int x4, .int x5, xmk, xmk]) (st' := [.int x1, .ref 69]) (by decide +kernel) (fun _ => rfl)).trans ?_
      refine (R_iaload (kd := 100) (n := 6) (by decide +kernel) rfl (by decide) (h1 c0 c1)).trans ?_
      refine (R_if_lt (off := 12) (t := 45) (by decide +kernel) (by decide +kernel)).trans (ite_congr rfl (fun c2 => ?_) (fun c2 => ?_))
      · refine (R_pure0 (ins := .aload_n 0) (len := 1) (loc' := [.ref 68, .int x1, .int x2, .int x3, .int x4, .int x5, xmk, xmk]) (st' := [.ref 68]) (by decide +kernel) (fun _ => rfl)).trans ?_
        refine (R_iconst (n := 1) (v := 1) (by decide +kernel) (by decide +kernel)).trans ?_
        refine (R_virt (i := 97) (f := 152) (kd := 0) (na := 1) (ml := 2) (ci := 10) (n := 33) (b := 68) (As := [.int 1]) (rest := []) (by decide +kernel) (by decide +kernel) (by decide) (by decide +kernel) rfl (by decide +kernel) rfl rfl (by decide +kernel) (Nat.le_of_ble_eq_true rfl)).trans ?_
        rfl
      · refine (R_pure0 (ins := .aload_n 0) (len := 1) (loc' := [.ref 68, .int x1, .int x2, .int x3, .int x4, .int x5, xmk, xmk]) (st' := [.ref 68]) (by decide +kernel) (fun _ => rfl)).trans ?_
        refine (R_gr (i := 7) (ci := 10) (k := 0) (n := 33) (b := 69) (by decide +kernel) (by decide +kernel) (by decide) rfl (SH_ref (by decide +kernel))).trans ?_
        refine (R_pure0 (ins := .iload_n 3) (len := 1) (loc' := [.ref 68, .int x1, .int x2, .int x3, .int x4, .int x5, xmk, xmk]) (st' := [.int x3, .ref 69]) (by decide +kernel) (fun _ => rfl)).trans ?_
        refine (R_iaload (kd := 100) (n := 6) (by decide +kernel) rfl (by decide) (h2 c0 c1 c2)).trans ?_
        refine (R_if_ge (off := 9) (t := 51) (by decide +kernel) (by decide +kernel)).trans (ite_congr rfl (fun c3 => ?_) (fun c3 => ?_))
        · refine (R_pure0 (ins := .aload_n 0) (len := 1) (loc' := [.ref 68, .int x1, .int x2, .int x3, .int x4, .int x5, xmk, xmk]) (st' := [.ref 68]) (by decide +kernel) (fun _ => rfl)).trans ?_
          refine (R_iconst (n := 1) (v := 1) (by decide +kernel) (by decide +kernel)).trans ?_
          refine (R_virt (i := 97) (f := 152) (kd := 0) (na := 1) (ml := 2) (ci := 10) (n := 33) (b := 68) (As := [.int 1]) (rest := []) (by decide +kernel) (by decide +kernel) (by decide) (by decide +kernel) rfl (by decide +kernel) rfl rfl (by decide +kernel) (Nat.le_of_ble_eq_true rfl)).trans ?_
          rfl
        · refine (R_pure0 (ins := .iload_n 2) (len := 1) (loc' := [.ref 68, .int x1, .int x2, .int x3, .int x4, .int x5, xmk, xmk]) (st' := [.int x2]) (by decide +kernel) (fun _ => rfl)).trans ?_
          refine (R_if_lt (off := 43) (t := 95) (by decide +kernel) (by decide +kernel)).trans (ite_congr rfl (fun c4 => ?_) (fun c4 => ?_))
          · refine (R_pure0 (ins := .aload_n 0) (len := 1) (loc' := [.ref 68, .int x1, .int x2, .int x3, .int x4, .int x5, xmk, xmk]) (st' := [.ref 68]) (by decide +kernel) (fun _ => rfl)).trans ?_
            refine (R_iconst (n := 2) (v := 2) (by decide +kernel) (by decide +kernel)).trans ?_
            refine (R_virt (i := 97) (f := 152) (kd := 0) (na := 1) (ml := 2) (ci := 10) (n := 33) (b := 68) (As := [.int 2]) (rest := []) (by decide +kernel) (by decide +kernel) (by decide) (by decide +kernel) rfl (by decide +kernel) rfl rfl (by decide +kernel) (Nat.le_of_ble_eq_true rfl)).trans ?_
            rfl
          · refine (R_pure0 (ins := .iload 4) (len := 2) (loc' := [.ref 68, .int x1, .int x2, .int x3, .int x4, .int x5, xmk, xmk]) (st' := [.int x4]) (by decide +kernel) (fun _ => rfl)).trans ?_
            refine (R_if_lt (off := 38) (t := 95) (by decide +kernel) (by decide +kernel)).trans (ite_congr rfl (fun c5 => ?_) (fun c5 => ?_))
            · refine (R_pure0 (ins := .aload_n 0) (len := 1) (loc' := [.ref 68, .int x1, .int x2, .int x3, .int x4, .int x5, xmk, xmk]) (st' := [.ref 68]) (by decide +kernel) (fun _ => rfl)).trans ?_
              refine (R_iconst (n := 2) (v := 2) (by decide +kernel) (by decide +kernel)).trans ?_
              refine (R_virt (i := 97) (f := 152) (kd := 0) (na := 1) (ml := 2) (ci := 10) (n := 33) (b := 68) (As := [.int 2]) (rest := []) (by decide +kernel) (by decide +kernel) (by decide) (by decide +kernel) rfl (by decide +kernel) rfl rfl (by decide +kernel) (Nat.le_of_ble_eq_true rfl)).trans ?_
              rfl
            · refine (R_pure0 (ins := .iload_n 2) (len := 1) (loc' := [.ref 68, .int x1, .int x2, .int x3, .int x4, .int x5, xmk, xmk]) (st' := [.int x2]) (by decide +kernel) (fun _ => rfl)).trans ?_
              refine (R_pure0 (ins := .i2l) (len := 1) (loc' := [.ref 68, .int x1, .int x2, .int x3, .int x4, .int x5, xmk, xmk]) (st' := [.long x2.toInt64]) (by decide +kernel) (fun _ => rfl)).trans ?_
              refine (R_pure0 (ins := .iload 5) (len := 2) (loc' := [.ref 68, .int x1, .int x2, .int x3, .int x4, .int x5, xmk, xmk]) (st' := [.int x5, .long x2.toInt64]) (by decide +kernel) (fun _ => rfl)).trans ?_
              refine (R_pure0 (ins := .i2l) (len := 1) (loc' := [.ref 68, .int x1, .int x2, .int x3, .int x4, .int x5, xmk, xmk]) (st' := [.long x5.toInt64, .long x2.toInt64]) (by decide +kernel) (fun _ => rfl)).trans ?_
              refine (R_pure0 (ins := .ladd) (len := 1) (loc' := [.ref 68, .int x1, .int x2, .int x3, .int x4, .int x5, xmk, xmk]) (st' := [.long (x2.toInt64 + x5.toInt64)]) (by decide +kernel) (fun _ => rfl)).trans ?_
              refine (R_pure0 (ins := .aload_n 0) (len := 1) (loc' := [.ref 68, .int x1, .int x2, .int x3, .int x4, .int x5, xmk, xmk]) (st' := [.ref 68, .long (x2.toInt64 + x5.toInt64)]) (by decide +kernel) (fun _ => rfl)).trans ?_
              refine (R_gr (i := 7) (ci := 10) (k := 0) (n := 33) (b := 69) (by decide +kernel) (by decide +kernel) (by decide) rfl (SH_ref (by decide +kernel))).trans ?_
              refine (R_pure0 (ins := .iload_n 1) (len := 1) (loc' := [.ref 68, .int x1, .int x2, .int x3, .int x4, .int x5, xmk, xmk]) (st' := [.int x1, .ref 69, .long (x2.toInt64 + x5.toInt64)]) (by decide +kernel) (fun _ => rfl)).trans ?_
              refine (R_iaload (kd := 100) (n := 6) (by decide +kernel) rfl (by decide) (h3 c0 c1 c2 c3 c4 c5)).trans ?_
              refine (R_pure0 (ins := .i2l) (len := 1) (loc' := [.ref 68, .int x1, .int x2, .int x3, .int x4, .int x5, xmk, xmk]) (st' := [.long (mi 69 x1.toNatClampNeg).toInt64, .long (x2.toInt64 + x5.toInt64)]) (by decide +kernel) (fun _ => rfl)).trans ?_
              refine (R_pure0 (ins := .lcmp) (len := 1) (loc' := [.ref 68, .int x1, .int x2, .int x3, .int x4, .int x5, xmk, xmk]) (st' := [.int (lg_cmp (x2.toInt64 + x5.toInt64) (mi 69 x1.toNatClampNeg).toInt64)]) (by decide +kernel) (fun _ => rfl)).trans ?_
              refine (R_if_gt (off := 21) (t := 95) (by decide +kernel) (by decide +kernel)).trans (ite_congr rfl (fun c6 => ?_) (fun c6 => ?_))
              · refine (R_pure0 (ins := .aload_n 0) (len := 1) (loc' := [.ref 68, .int x1, .int x2, .int x3, .int x4, .int x5, xmk, xmk]) (st' := [.ref 68]) (by decide +kernel) (fun _ => rfl)).trans ?_
                refine (R_iconst (n := 2) (v := 2) (by decide +kernel) (by decide +kernel)).trans ?_
                refine (R_virt (i := 97) (f := 152) (kd := 0) (na := 1) (ml := 2) (ci := 10) (n := 33) (b := 68) (As := [.int 2]) (rest := []) (by decide +kernel) (by decide +kernel) (by decide) (by decide +kernel) rfl (by decide +kernel) rfl rfl (by decide +kernel) (Nat.le_of_ble_eq_true rfl)).trans ?_
                rfl
              · refine (R_pure0 (ins := .iload 4) (len := 2) (loc' := [.ref 68, .int x1, .int x2, .int x3, .int x4, .int x5, xmk, xmk]) (st' := [.int x4]) (by decide +kernel) (fun _ => rfl)).trans ?_
                refine (R_pure0 (ins := .i2l) (len := 1) (loc' := [.ref 68, .int x1, .int x2, .int x3, .int x4, .int x5, xmk, xmk]) (st' := [.long x4.toInt64]) (by decide +kernel) (fun _ => rfl)).trans ?_
                refine (R_pure0 (ins := .iload 5) (len := 2) (loc' := [.ref 68, .int x1, .int x2, .int x3, .int x4, .int x5, xmk, xmk]) (st' := [.int x5, .long x4.toInt64]) (by decide +kernel) (fun _ => rfl)).trans ?_
                refine (R_pure0 (ins := .i2l) (len := 1) (loc' := [.ref 68, .int x1, .int x2, .int x3, .int x4, .int x5, xmk, xmk]) (st' := [.long x5.toInt64, .long x4.toInt64]) (by decide +kernel) (fun _ => rfl)).trans ?_
                refine (R_pure0 (ins := .ladd) (len := 1) (loc' := [.ref 68, .int x1, .int x2, .int x3, .int x4, .int x5, xmk, xmk]) (st' := [.long (x4.toInt64 + x5.toInt64)]) (by decide +kernel) (fun _ => rfl)).trans ?_
                refine (R_pure0 (ins := .aload_n 0) (len := 1) (loc' := [.ref 68, .int x1, .int x2, .int x3, .int x4, .int x5, xmk, xmk]) (st' := [.ref 68, .long (x4.toInt64 + x5.toInt64)]) (by decide +kernel) (fun _ => rfl)).trans ?_
                refine (R_gr (i := 7) (ci := 10) (k := 0) (n := 33) (b := 69) (by decide +kernel) (by decide +kernel) (by decide) rfl (SH_ref (by decide +kernel))).trans ?_
                refine (R_pure0 (ins := .iload_n 3) (len := 1) (loc' := [.ref 68, .int x1, .int x2, .int x3, .int x4, .int x5, xmk, xmk]) (st' := [.int x3, .ref 69, .long (x4.toInt64 + x5.toInt64)]) (by decide +kernel) (fun _ => rfl)).trans ?_
                refine (R_iaload (kd := 100) (n := 6) (by decide +kernel) rfl (by decide) (h4 c0 c1 c2 c3 c4 c5 c6)).trans ?_
                refine (R_pure0 (ins := .i2l) (len := 1) (loc' := [.ref 68, .int x1, .int x2, .int x3, .int x4, .int x5, xmk, xmk]) (st' := [.long (mi 69 x3.toNatClampNeg).toInt64, .long (x4.toInt64 + x5.toInt64)]) (by decide +kernel) (fun _ => rfl)).trans ?_
                refine (R_pure0 (ins := .lcmp) (len := 1) (loc' := [.ref 68, .int x1, .int x2, .int x3, .int x4, .int x5, xmk, xmk]) (st' := [.int (lg_cmp (x4.toInt64 + x5.toInt64) (mi 69 x3.toNatClampNeg).toInt64)]) (by decide +kernel) (fun _ => rfl)).trans ?_
                refine (R_if_le (off := 9) (t := 101) (by decide +kernel) (by decide +kernel)).trans (ite_congr rfl (fun c7 => ?_) (fun c7 => ?_))
                · refine (R_pure0 (ins := .aload_n 0) (len := 1) (loc' := [.ref 68, .int x1, .int x2, .int x3, .int x4, .int x5, xmk, xmk]) (st' := [.ref 68]) (by decide +kernel) (fun _ => rfl)).trans ?_
                  refine (R_iconst (n := 2) (v := 2) (by decide +kernel) (by decide +kernel)).trans ?_
                  refine (R_virt (i := 97) (f := 152) (kd := 0) (na := 1) (ml := 2) (ci := 10) (n := 33) (b := 68) (As := [.int 2]) (rest := []) (by decide +kernel) (by decide +kernel) (by decide) (by decide +kernel) rfl (by decide +kernel) rfl rfl (by decide +kernel) (Nat.le_of_ble_eq_true rfl)).trans ?_
                  rfl
                · refine (R_iconst (n := 0) (v := 0) (by decide +kernel) (by decide +kernel)).trans ?_
                  refine (R_pure0 (ins := .istore 6) (len := 2) (loc' := [.ref 68, .int x1, .int x2, .int x3, .int x4, .int x5, .int 0, xmk]) (st' := []) (by decide +kernel) (fun _ => rfl)).trans ?_
                  rfl
theorem s161_26 {L : Nat} {mi : Nat → Nat → Int32} {ml : Nat → Nat → Int64} {d : Nat} {Q : Option Value → xM → Prop} {x1 x2 x3 x4 x5 y : Int32} : X 161 26 [.ref 68, .int x1, .int x2, .int x3, .int x4, .int x5, xmk, xmk] [.int y] (SH L, mi, ml, MR) d Q =
    Q (some (.int y)) (SH L, mi, ml, MR) := by
  exact R_ireturn (by decide +kernel) (by decide +kernel)
theorem s161_50 {L : Nat} {mi : Nat → Nat → Int32} {ml : Nat → Nat → Int64} {d : Nat} {Q : Option Value → xM → Prop} {x1 x2 x3 x4 x5 y : Int32} : X 161 50 [.ref 68, .int x1, .int x2, .int x3, .int x4, .int x5, xmk, xmk] [.int y] (SH L, mi, ml, MR) d Q =
    Q (some (.int y)) (SH L, mi, ml, MR) := by
  exact R_ireturn (by decide +kernel) (by decide +kernel)
theorem s161_100 {L : Nat} {mi : Nat → Nat → Int32} {ml : Nat → Nat → Int64} {d : Nat} {Q : Option Value → xM → Prop} {x1 x2 x3 x4 x5 y : Int32} : X 161 100 [.ref 68, .int x1, .int x2, .int x3, .int x4, .int x5, xmk, xmk] [.int y] (SH L, mi, ml, MR) d Q =
    Q (some (.int y)) (SH L, mi, ml, MR) := by
  exact R_ireturn (by decide +kernel) (by decide +kernel)
theorem s161_104 {L : Nat} {mi : Nat → Nat → Int32} {ml : Nat → Nat → Int64} {d : Nat} {Q : Option Value → xM → Prop} {x1 x2 x3 x4 x5 x6 : Int32} (h1 : (x6 < x5) → (x2 < x4) → xin (((40 * x1) + x2) + ((x5 - 1) - x6)) 240 = true) (h2 : (x6 < x5) → (x2 < x4) → xin (((40 * x3) + x4) + ((x5 - 1) - x6)) 240 = true) (h3 : (x6 < x5) → ¬ (x2 < x4) → xin (((40 * x1) + x2) + x6) 240 = true) (h4 : (x6 < x5) → ¬ (x2 < x4) → xin (((40 * x3) + x4) + x6) 240 = true) : X 161 104 [.ref 68, .int x1, .int x2, .int x3, .int x4, .int x5, .int x6, xmk] [] (SH L, mi, ml, MR) d Q =
    if (x6 < x5) then (if (x2 < x4) then (X 161 104 [.ref 68, .int x1, .int x2, .int x3, .int x4, .int x5, .int (x6 + 1), .int ((x5 - 1) - x6)] [] (SH L, (xw mi 70 (((40 * x3) + x4) + ((x5 - 1) - x6)).toNatClampNeg (mi 70 (((40 * x1) + x2) + ((x5 - 1) - x6)).toNatClampNeg)), ml, MR) d Q) else (X 161 104 [.ref 68, .int x1, .int x2, .int x3, .int x4, .int x5, .int (x6 + 1), .int x6] [] (SH L, (xw mi 70 (((40 * x3) + x4) + x6).toNatClampNeg (mi 70 (((40 * x1) + x2) + x6).toNatClampNeg)), ml, MR) d Q)) else (Q (some (.int 1)) (SH L, mi, ml, MR)) := by
  refine (R_pure0 (ins := .iload 6) (len := 2) (loc' := [.ref 68, .int x1, .int x2, .int x3, .int x4, .int x5, .int x6, xmk]) (st' := [.int x6]) (by decide +kernel) (fun _ => rfl)).trans ?_
  refine (R_pure0 (ins := .iload 5) (len := 2) (loc' := [.ref 68, .int x1, .int x2, .int x3, .int x4, .int x5, .int x6, xmk]) (st' := [.int x5, .int x6]) (by decide +kernel) (fun _ => rfl)).trans ?_
  refine (R_icmp_ge (off := 58) (t := 166) (by decide +kernel) (by decide +kernel)).trans (ite_congr rfl (fun c0 => ?_) (fun c0 => ?_))
  · refine (R_pure0 (ins := .iload 4) (len := 2) (loc' := [.ref 68, .int x1, .int x2, .int x3, .int x4, .int x5, .int x6, xmk]) (st' := [.int x4]) (by decide +kernel) (fun _ => rfl)).trans ?_
    refine (R_pure0 (ins := .iload_n 2) (len := 1) (loc' := [.ref 68, .int x1, .int x2, .int x3, .int x4, .int x5, .int x6, xmk]) (st' := [.int x2, .int x4]) (by decide +kernel) (fun _ => rfl)).trans ?_
    refine (R_icmp_le (off := 13) (t := 127) (by decide +kernel) (by decide +kernel)).trans (ite_congr rfl (fun c1 => ?_) (fun c1 => ?_))
    · refine (R_pure0 (ins := .iload 5) (len := 2) (loc' := [.ref 68, .int x1, .int x2, .int x3, .int x4, .int x5, .int x6, xmk]) (st' := [.int x5]) (by decide +kernel) (fun _ => rfl)).trans ?_
      refine (R_iconst (n := 1) (v := 1) (by decide +kernel) (by decide +kernel)).trans ?_
      refine (R_pure0 (ins := .isub) (len := 1) (loc' := [.ref 68, .int x1, .int x2, .int x3, .int x4, .int x5, .int x6, xmk]) (st' := [.int (x5 - 1)]) (by decide +kernel) (fun _ => rfl)).trans ?_
      refine (R_pure0 (ins := .iload 6) (len := 2) (loc' := [.ref 68, .int x1, .int x2, .int x3, .int x4, .int x5, .int x6, xmk]) (st' := [.int x6, .int (x5 - 1)]) (by decide +kernel) (fun _ => rfl)).trans ?_
      refine (R_pure0 (ins := .isub) (len := 1) (loc' := [.ref 68, .int x1, .int x2, .int x3, .int x4, .int x5, .int x6, xmk]) (st' := [.int ((x5 - 1) - x6)]) (by decide +kernel) (fun _ => rfl)).trans ?_
      refine (R_goto (off := 5) (t := 129) (by decide +kernel) (by decide +kernel)).trans ?_
      refine (R_pure0 (ins := .istore 7) (len := 2) (loc' := [.ref 68, .int x1, .int x2, .int x3, .int x4, .int x5, .int x6, .int ((x5 - 1) - x6)]) (st' := []) (by decide +kernel) (fun _ => rfl)).trans ?_
      refine (R_pure0 (ins := .aload_n 0) (len := 1) (loc' := [.ref 68, .int x1, .int x2, .int x3, .int x4, .int x5, .int x6, .int ((x5 - 1) - x6)]) (st' := [.ref 68]) (by decide +kernel) (fun _ => rfl)).trans ?_
      refine (R_gr (i := 13) (ci := 10) (k := 1) (n := 33) (b := 70) (by decide +kernel) (by decide +kernel) (by decide) rfl (SH_ref (by decide +kernel))).trans ?_
      refine (R_bipush (n := 40) (v := 40) (by decide +kernel) (by decide +kernel)).trans ?_
      refine (R_pure0 (ins := .iload_n 3) (len := 1) (loc' := [.ref 68, .int x1, .int x2, .int x3, .int x4, .int x5, .int x6, .int ((x5 - 1) - x6)]) (st' := [.int x3, .int 40, .ref 70]) (by decide +kernel) (fun _ => rfl)).trans ?_
      refine (R_pure0 (ins := .imul) (len := 1) (loc' := [.ref 68, .int x1, .int x2, .int x3, .int x4, .int x5, .int x6, .int ((x5 - 1) - x6)]) (st' := [.int (40 * x3), .ref 70]) (by decide +kernel) (fun _ => rfl)).trans ?_
      refine (R_pure0 (ins := .iload 4) (len := 2) (loc' := [.ref 68, .int x1, .int x2, .int x3, .int x4, .int x5, .int x6, .int ((x5 - 1) - x6)]) (st' := [.int x4, .int (40 * x3), .ref 70]) (by decide +kernel) (fun _ => rfl)).trans ?_
      refine (R_pure0 (ins := .iadd) (len := 1) (loc' := [.ref 68, .int x1, .int x2, .int x3, .int x4, .int x5, .int x6, .int ((x5 - 1) - x6)]) (st' := [.int ((40 * x3) + x4), .ref 70]) (by decide +kernel) (fun _ => rfl)).trans ?_
      refine (R_pure0 (ins := .iload 7) (len := 2) (loc' := [.ref 68, .int x1, .int x2, .int x3, .int x4, .int x5, .int x6, .int ((x5 - 1) - x6)]) (st' := [.int ((x5 - 1) - x6), .int ((40 * x3) + x4), .ref 70]) (by decide +kernel) (fun _ => rfl)).trans ?_
      refine (R_pure0 (ins := .iadd) (len := 1) (loc' := [.ref 68, .int x1, .int x2, .int x3, .int x4, .int x5, .int x6, .int ((x5 - 1) - x6)]) (st' := [.int (((40 * x3) + x4) + ((x5 - 1) - x6)), .ref 70]) (by decide +kernel) (fun _ => rfl)).trans ?_
      refine (R_pure0 (ins := .aload_n 0) (len := 1) (loc' := [.ref 68, .int x1, .int x2, .int x3, .int x4, .int x5, .int x6, .int ((x5 - 1) - x6)]) (st' := [.ref 68, .int (((40 * x3) + x4) + ((x5 - 1) - x6)), .ref 70]) (by decide +kernel) (fun _ => rfl)).trans ?_
      refine (R_gr (i := 13) (ci := 10) (k := 1) (n := 33) (b := 70) (by decide +kernel) (by decide +kernel) (by decide) rfl (SH_ref (by decide +kernel))).trans ?_
      refine (R_bipush (n := 40) (v := 40) (by decide +kernel) (by decide +kernel)).trans ?_
      refine (R_pure0 (ins := .iload_n 1) (len := 1) (loc' := [.ref 68, .int x1, .int x2, .int x3, .int x4, .int x5, .int x6, .int ((x5 - 1) - x6)]) (st' := [.int x1, .int 40, .ref 70, .int (((40 * x3) + x4) + ((x5 - 1) - x6)), .ref 70]) (by decide +kernel) (fun _ => rfl)).trans ?_
      refine (R_pure0 (ins := .imul) (len := 1) (loc' := [.ref 68, .int x1, .int x2, .int x3, .int x4, .int x5, .int x6, .int ((x5 - 1) - x6)]) (st' := [.int (40 * x1), .ref 70, .int (((40 * x3) + x4) + ((x5 - 1) - x6)), .ref 70]) (by decide +kernel) (fun _ => rfl)).trans ?_
      refine (R_pure0 (ins := .iload_n 2) (len := 1) (loc' := [.ref 68, .int x1, .int x2, .int x3, .int x4, .int x5, .int x6, .int ((x5 - 1) - x6)]) (st' := [.int x2, .int (40 * x1), .ref 70, .int (((40 * x3) + x4) + ((x5 - 1) - x6)), .ref 70]) (by decide +kernel) (fun _ => rfl)).trans ?_
      refine (R_pure0 (ins := .iadd) (len := 1) (loc' := [.ref 68, .int x1, .int x2, .int x3, .int x4, .int x5, .int x6, .int ((x5 - 1) - x6)]) (st' := [.int ((40 * x1) + x2), .ref 70, .int (((40 * x3) + x4) + ((x5 - 1) - x6)), .ref 70]) (by decide +kernel) (fun _ => rfl)).trans ?_
      refine (R_pure0 (ins := .iload 7) (len := 2) (loc' := [.ref 68, .int x1, .int x2, .int x3, .int x4, .int x5, .int x6, .int ((x5 - 1) - x6)]) (st' := [.int ((x5 - 1) - x6), .int ((40 * x1) + x2), .ref 70, .int (((40 * x3) + x4) + ((x5 - 1) - x6)), .ref 70]) (by decide +kernel) (fun _ => rfl)).trans ?_
      refine (R_pure0 (ins := .iadd) (len := 1) (loc' := [.ref 68, .int x1, .int x2, .int x3, .int x4, .int x5, .int x6, .int ((x5 - 1) - x6)]) (st' := [.int (((40 * x1) + x2) + ((x5 - 1) - x6)), .ref 70, .int (((40 * x3) + x4) + ((x5 - 1) - x6)), .ref 70]) (by decide +kernel) (fun _ => rfl)).trans ?_
      refine (R_iaload (kd := 100) (n := 240) (by decide +kernel) rfl (by decide) (h1 c0 c1)).trans ?_
      refine (R_iastore (n := 240) (by decide +kernel) rfl (h2 c0 c1)).trans ?_
      refine (R_iinc (k := 6) (n := 1) (x := x6) (v := (x6 + 1)) (loc' := [.ref 68, .int x1, .int x2, .int x3, .int x4, .int x5, .int (x6 + 1), .int ((x5 - 1) - x6)]) (by decide +kernel) rfl rfl rfl).trans ?_
      refine (R_goto (off := (-59)) (t := 104) (by decide +kernel) (by decide +kernel)).trans ?_
      rfl
    · refine (R_pure0 (ins := .iload 6) (len := 2) (loc' := [.ref 68, .int x1, .int x2, .int x3, .int x4, .int x5, .int x6, xmk]) (st' := [.int x6]) (by decide +kernel) (fun _ => rfl)).trans ?_
      refine (R_pure0 (ins := .istore 7) (len := 2) (loc' := [.ref 68, .int x1, .int x2, .int x3, .int x4, .int x5, .int x6, .int x6]) (st' := []) (by decide +kernel) (fun _ => rfl)).trans ?_
      refine (R_pure0 (ins := .aload_n 0) (len := 1) (loc' := [.ref 68, .int x1, .int x2, .int x3, .int x4, .int x5, .int x6, .int x6]) (st' := [.ref 68]) (by decide +kernel) (fun _ => rfl)).trans ?_
      refine (R_gr (i := 13) (ci := 10) (k := 1) (n := 33) (b := 70) (by decide +kernel) (by decide +kernel) (by decide) rfl (SH_ref (by decide +kernel))).trans ?_
      refine (R_bipush (n := 40) (v := 40) (by decide +kernel) (by decide +kernel)).trans ?_
      refine (R_pure0 (ins := .iload_n 3) (len := 1) (loc' := [.ref 68, .int x1, .int x2, .int x3, .int x4, .int x5, .int x6, .int x6]) (st' := [.int x3, .int 40, .ref 70]) (by decide +kernel) (fun _ => rfl)).trans ?_
      refine (R_pure0 (ins := .imul) (len := 1) (loc' := [.ref 68, .int x1, .int x2, .int x3, .int x4, .int x5, .int x6, .int x6]) (st' := [.int (40 * x3), .ref 70]) (by decide +kernel) (fun _ => rfl)).trans ?_
      refine (R_pure0 (ins := .iload 4) (len := 2) (loc' := [.ref 68, .int x1, .int x2, .int x3, .int x4, .int x5, .int x6, .int x6]) (st' := [.int x4, .int (40 * x3), .ref 70]) (by decide +kernel) (fun _ => rfl)).trans ?_
      refine (R_pure0 (ins := .iadd) (len := 1) (loc' := [.ref 68, .int x1, .int x2, .int x3, .int x4, .int x5, .int x6, .int x6]) (st' := [.int ((40 * x3) + x4), .ref 70]) (by decide +kernel) (fun _ => rfl)).trans ?_
      refine (R_pure0 (ins := .iload 7) (len := 2) (loc' := [.ref 68, .int x1, .int x2, .int x3, .int x4, .int x5, .int x6, .int x6]) (st' := [.int x6, .int ((40 * x3) + x4), .ref 70]) (by decide +kernel) (fun _ => rfl)).trans ?_
      refine (R_pure0 (ins := .iadd) (len := 1) (loc' := [.ref 68, .int x1, .int x2, .int x3, .int x4, .int x5, .int x6, .int x6]) (st' := [.int (((40 * x3) + x4) + x6), .ref 70]) (by decide +kernel) (fun _ => rfl)).trans ?_
      refine (R_pure0 (ins := .aload_n 0) (len := 1) (loc' := [.ref 68, .int x1, .int x2, .int x3, .int x4, .int x5, .int x6, .int x6]) (st' := [.ref 68, .int (((40 * x3) + x4) + x6), .ref 70]) (by decide +kernel) (fun _ => rfl)).trans ?_
      refine (R_gr (i := 13) (ci := 10) (k := 1) (n := 33) (b := 70) (by decide +kernel) (by decide +kernel) (by decide) rfl (SH_ref (by decide +kernel))).trans ?_
      refine (R_bipush (n := 40) (v := 40) (by decide +kernel) (by decide +kernel)).trans ?_
      refine (R_pure0 (ins := .iload_n 1) (len := 1) (loc' := [.ref 68, .int x1, .int x2, .int x3, .int x4, .int x5, .int x6, .int x6]) (st' := [.int x1, .int 40, .ref 70, .int (((40 * x3) + x4) + x6), .ref 70]) (by decide +kernel) (fun _ => rfl)).trans ?_
      refine (R_pure0 (ins := .imul) (len := 1) (loc' := [.ref 68, .int x1, .int x2, .int x3, .int x4, .int x5, .int x6, .int x6]) (st' := [.int (40 * x1), .ref 70, .int (((40 * x3) + x4) + x6), .ref 70]) (by decide +kernel) (fun _ => rfl)).trans ?_
      refine (R_pure0 (ins := .iload_n 2) (len := 1) (loc' := [.ref 68, .int x1, .int x2, .int x3, .int x4, .int x5, .int x6, .int x6]) (st' := [.int x2, .int (40 * x1), .ref 70, .int (((40 * x3) + x4) + x6), .ref 70]) (by decide +kernel) (fun _ => rfl)).trans ?_
      refine (R_pure0 (ins := .iadd) (len := 1) (loc' := [.ref 68, .int x1, .int x2, .int x3, .int x4, .int x5, .int x6, .int x6]) (st' := [.int ((40 * x1) + x2), .ref 70, .int (((40 * x3) + x4) + x6), .ref 70]) (by decide +kernel) (fun _ => rfl)).trans ?_
      refine (R_pure0 (ins := .iload 7) (len := 2) (loc' := [.ref 68, .int x1, .int x2, .int x3, .int x4, .int x5, .int x6, .int x6]) (st' := [.int x6, .int ((40 * x1) + x2), .ref 70, .int (((40 * x3) + x4) + x6), .ref 70]) (by decide +kernel) (fun _ => rfl)).trans ?_
      refine (R_pure0 (ins := .iadd) (len := 1) (loc' := [.ref 68, .int x1, .int x2, .int x3, .int x4, .int x5, .int x6, .int x6]) (st' := [.int (((40 * x1) + x2) + x6), .ref 70, .int (((40 * x3) + x4) + x6), .ref 70]) (by decide +kernel) (fun _ => rfl)).trans ?_
      refine (R_iaload (kd := 100) (n := 240) (by decide +kernel) rfl (by decide) (h3 c0 c1)).trans ?_
      refine (R_iastore (n := 240) (by decide +kernel) rfl (h4 c0 c1)).trans ?_
      refine (R_iinc (k := 6) (n := 1) (x := x6) (v := (x6 + 1)) (loc' := [.ref 68, .int x1, .int x2, .int x3, .int x4, .int x5, .int (x6 + 1), .int x6]) (by decide +kernel) rfl rfl rfl).trans ?_
      refine (R_goto (off := (-59)) (t := 104) (by decide +kernel) (by decide +kernel)).trans ?_
      rfl
  · refine (R_iconst (n := 1) (v := 1) (by decide +kernel) (by decide +kernel)).trans ?_
    exact R_ireturn (by decide +kernel) (by decide +kernel)
theorem s161_104v2 {L : Nat} {mi : Nat → Nat → Int32} {ml : Nat → Nat → Int64} {d : Nat} {Q : Option Value → xM → Prop} {x1 x2 x3 x4 x5 x6 x7 : Int32} (h1 : (x6 < x5) → (x2 < x4) → xin (((40 * x1) + x2) + ((x5 - 1) - x6)) 240 = true) (h2 : (x6 < x5) → (x2 < x4) → xin (((40 * x3) + x4) + ((x5 - 1) - x6)) 240 = true) (h3 : (x6 < x5) → ¬ (x2 < x4) → xin (((40 * x1) + x2) + x6) 240 = true) (h4 : (x6 < x5) → ¬ (x2 < x4) → xin (((40 * x3) + x4) + x6) 240 = true) : X 161 104 [.ref 68, .int x1, .int x2, .int x3, .int x4, .int x5, .int x6, .int x7] [] (SH L, mi, ml, MR) d Q =
    if (x6 < x5) then (if (x2 < x4) then (X 161 104 [.ref 68, .int x1, .int x2, .int x3, .int x4, .int x5, .int (x6 + 1), .int ((x5 - 1) - x6)] [] (SH L, (xw mi 70 (((40 * x3) + x4) + ((x5 - 1) - x6)).toNatClampNeg (mi 70 (((40 * x1) + x2) + ((x5 - 1) - x6)).toNatClampNeg)), ml, MR) d Q) else (X 161 104 [.ref 68, .int x1, .int x2, .int x3, .int x4, .int x5, .int (x6 + 1), .int x6] [] (SH L, (xw mi 70 (((40 * x3) + x4) + x6).toNatClampNeg (mi 70 (((40 * x1) + x2) + x6).toNatClampNeg)), ml, MR) d Q)) else (Q (some (.int 1)) (SH L, mi, ml, MR)) := by
  refine (R_pure0 (ins := .iload 6) (len := 2) (loc' := [.ref 68, .int x1, .int x2, .int x3, .int x4, .int x5, .int x6, .int x7]) (st' := [.int x6]) (by decide +kernel) (fun _ => rfl)).trans ?_
  refine (R_pure0 (ins := .iload 5) (len := 2) (loc' := [.ref 68, .int x1, .int x2, .int x3, .int x4, .int x5, .int x6, .int x7]) (st' := [.int x5, .int x6]) (by decide +kernel) (fun _ => rfl)).trans ?_
  refine (R_icmp_ge (off := 58) (t := 166) (by decide +kernel) (by decide +kernel)).trans (ite_congr rfl (fun c0 => ?_) (fun c0 => ?_))
  · refine (R_pure0 (ins := .iload 4) (len := 2) (loc' := [.ref 68, .int x1, .int x2, .int x3, .int x4, .int x5, .int x6, .int x7]) (st' := [.int x4]) (by decide +kernel) (fun _ => rfl)).trans ?_
    refine (R_pure0 (ins := .iload_n 2) (len := 1) (loc' := [.ref 68, .int x1, .int x2, .int x3, .int x4, .int x5, .int x6, .int x7]) (st' := [.int x2, .int x4]) (by decide +kernel) (fun _ => rfl)).trans ?_
    refine (R_icmp_le (off := 13) (t := 127) (by decide +kernel) (by decide +kernel)).trans (ite_congr rfl (fun c1 => ?_) (fun c1 => ?_))
    · refine (R_pure0 (ins := .iload 5) (len := 2) (loc' := [.ref 68, .int x1, .int x2, .int x3, .int x4, .int x5, .int x6, .int x7]) (st' := [.int x5]) (by decide +kernel) (fun _ => rfl)).trans ?_
      refine (R_iconst (n := 1) (v := 1) (by decide +kernel) (by decide +kernel)).trans ?_
      refine (R_pure0 (ins := .isub) (len := 1) (loc' := [.ref 68, .int x1, .int x2, .int x3, .int x4, .int x5, .int x6, .int x7]) (st' := [.int (x5 - 1)]) (by decide +kernel) (fun _ => rfl)).trans ?_
      refine (R_pure0 (ins := .iload 6) (len := 2) (loc' := [.ref 68, .int x1, .int x2, .int x3, .int x4, .int x5, .int x6, .int x7]) (st' := [.int x6, .int (x5 - 1)]) (by decide +kernel) (fun _ => rfl)).trans ?_
      refine (R_pure0 (ins := .isub) (len := 1) (loc' := [.ref 68, .int x1, .int x2, .int x3, .int x4, .int x5, .int x6, .int x7]) (st' := [.int ((x5 - 1) - x6)]) (by decide +kernel) (fun _ => rfl)).trans ?_
      refine (R_goto (off := 5) (t := 129) (by decide +kernel) (by decide +kernel)).trans ?_
      refine (R_pure0 (ins := .istore 7) (len := 2) (loc' := [.ref 68, .int x1, .int x2, .int x3, .int x4, .int x5, .int x6, .int ((x5 - 1) - x6)]) (st' := []) (by decide +kernel) (fun _ => rfl)).trans ?_
      refine (R_pure0 (ins := .aload_n 0) (len := 1) (loc' := [.ref 68, .int x1, .int x2, .int x3, .int x4, .int x5, .int x6, .int ((x5 - 1) - x6)]) (st' := [.ref 68]) (by decide +kernel) (fun _ => rfl)).trans ?_
      refine (R_gr (i := 13) (ci := 10) (k := 1) (n := 33) (b := 70) (by decide +kernel) (by decide +kernel) (by decide) rfl (SH_ref (by decide +kernel))).trans ?_
      refine (R_bipush (n := 40) (v := 40) (by decide +kernel) (by decide +kernel)).trans ?_
      refine (R_pure0 (ins := .iload_n 3) (len := 1) (loc' := [.ref 68, .int x1, .int x2, .int x3, .int x4, .int x5, .int x6, .int ((x5 - 1) - x6)]) (st' := [.int x3, .int 40, .ref 70]) (by decide +kernel) (fun _ => rfl)).trans ?_
      refine (R_pure0 (ins := .imul) (len := 1) (loc' := [.ref 68, .int x1, .int x2, .int x3, .int x4, .int x5, .int x6, .int ((x5 - 1) - x6)]) (st' := [.int (40 * x3), .ref 70]) (by decide +kernel) (fun _ => rfl)).trans ?_
      refine (R_pure0 (ins := .iload 4) (len := 2) (loc' := [.ref 68, .int x1, .int x2, .int x3, .int x4, .int x5, .int x6, .int ((x5 - 1) - x6)]) (st' := [.int x4, .int (40 * x3), .ref 70]) (by decide +kernel) (fun _ => rfl)).trans ?_
      refine (R_pure0 (ins := .iadd) (len := 1) (loc' := [.ref 68, .int x1, .int x2, .int x3, .int x4, .int x5, .int x6, .int ((x5 - 1) - x6)]) (st' := [.int ((40 * x3) + x4), .ref 70]) (by decide +kernel) (fun _ => rfl)).trans ?_
      refine (R_pure0 (ins := .iload 7) (len := 2) (loc' := [.ref 68, .int x1, .int x2, .int x3, .int x4, .int x5, .int x6, .int ((x5 - 1) - x6)]) (st' := [.int ((x5 - 1) - x6), .int ((40 * x3) + x4), .ref 70]) (by decide +kernel) (fun _ => rfl)).trans ?_
      refine (R_pure0 (ins := .iadd) (len := 1) (loc' := [.ref 68, .int x1, .int x2, .int x3, .int x4, .int x5, .int x6, .int ((x5 - 1) - x6)]) (st' := [.int (((40 * x3) + x4) + ((x5 - 1) - x6)), .ref 70]) (by decide +kernel) (fun _ => rfl)).trans ?_
      refine (R_pure0 (ins := .aload_n 0) (len := 1) (loc' := [.ref 68, .int x1, .int x2, .int x3, .int x4, .int x5, .int x6, .int ((x5 - 1) - x6)]) (st' := [.ref 68, .int (((40 * x3) + x4) + ((x5 - 1) - x6)), .ref 70]) (by decide +kernel) (fun _ => rfl)).trans ?_
      refine (R_gr (i := 13) (ci := 10) (k := 1) (n := 33) (b := 70) (by decide +kernel) (by decide +kernel) (by decide) rfl (SH_ref (by decide +kernel))).trans ?_
      refine (R_bipush (n := 40) (v := 40) (by decide +kernel) (by decide +kernel)).trans ?_
      refine (R_pure0 (ins := .iload_n 1) (len := 1) (loc' := [.ref 68, .int x1, .int x2, .int x3, .int x4, .int x5, .int x6, .int ((x5 - 1) - x6)]) (st' := [.int x1, .int 40, .ref 70, .int (((40 * x3) + x4) + ((x5 - 1) - x6)), .ref 70]) (by decide +kernel) (fun _ => rfl)).trans ?_
      refine (R_pure0 (ins := .imul) (len := 1) (loc' := [.ref 68, .int x1, .int x2, .int x3, .int x4, .int x5, .int x6, .int ((x5 - 1) - x6)]) (st' := [.int (40 * x1), .ref 70, .int (((40 * x3) + x4) + ((x5 - 1) - x6)), .ref 70]) (by decide +kernel) (fun _ => rfl)).trans ?_
      refine (R_pure0 (ins := .iload_n 2) (len := 1) (loc' := [.ref 68, .int x1, .int x2, .int x3, .int x4, .int x5, .int x6, .int ((x5 - 1) - x6)]) (st' := [.int x2, .int (40 * x1), .ref 70, .int (((40 * x3) + x4) + ((x5 - 1) - x6)), .ref 70]) (by decide +kernel) (fun _ => rfl)).trans ?_
      refine (R_pure0 (ins := .iadd) (len := 1) (loc' := [.ref 68, .int x1, .int x2, .int x3, .int x4, .int x5, .int x6, .int ((x5 - 1) - x6)]) (st' := [.int ((40 * x1) + x2), .ref 70, .int (((40 * x3) + x4) + ((x5 - 1) - x6)), .ref 70]) (by decide +kernel) (fun _ => rfl)).trans ?_
      refine (R_pure0 (ins := .iload 7) (len := 2) (loc' := [.ref 68, .int x1, .int x2, .int x3, .int x4, .int x5, .int x6, .int ((x5 - 1) - x6)]) (st' := [.int ((x5 - 1) - x6), .int ((40 * x1) + x2), .ref 70, .int (((40 * x3) + x4) + ((x5 - 1) - x6)), .ref 70]) (by decide +kernel) (fun _ => rfl)).trans ?_
      refine (R_pure0 (ins := .iadd) (len := 1) (loc' := [.ref 68, .int x1, .int x2, .int x3, .int x4, .int x5, .int x6, .int ((x5 - 1) - x6)]) (st' := [.int (((40 * x1) + x2) + ((x5 - 1) - x6)), .ref 70, .int (((40 * x3) + x4) + ((x5 - 1) - x6)), .ref 70]) (by decide +kernel) (fun _ => rfl)).trans ?_
      refine (R_iaload (kd := 100) (n := 240) (by decide +kernel) rfl (by decide) (h1 c0 c1)).trans ?_
      refine (R_iastore (n := 240) (by decide +kernel) rfl (h2 c0 c1)).trans ?_
      refine (R_iinc (k := 6) (n := 1) (x := x6) (v := (x6 + 1)) (loc' := [.ref 68, .int x1, .int x2, .int x3, .int x4, .int x5, .int (x6 + 1), .int ((x5 - 1) - x6)]) (by decide +kernel) rfl rfl rfl).trans ?_
      refine (R_goto (off := (-59)) (t := 104) (by decide +kernel) (by decide +kernel)).trans ?_
      rfl
    · refine (R_pure0 (ins := .iload 6) (len := 2) (loc' := [.ref 68, .int x1, .int x2, .int x3, .int x4, .int x5, .int x6, .int x7]) (st' := [.int x6]) (by decide +kernel) (fun _ => rfl)).trans ?_
      refine (R_pure0 (ins := .istore 7) (len := 2) (loc' := [.ref 68, .int x1, .int x2, .int x3, .int x4, .int x5, .int x6, .int x6]) (st' := []) (by decide +kernel) (fun _ => rfl)).trans ?_
      refine (R_pure0 (ins := .aload_n 0) (len := 1) (loc' := [.ref 68, .int x1, .int x2, .int x3, .int x4, .int x5, .int x6, .int x6]) (st' := [.ref 68]) (by decide +kernel) (fun _ => rfl)).trans ?_
      refine (R_gr (i := 13) (ci := 10) (k := 1) (n := 33) (b := 70) (by decide +kernel) (by decide +kernel) (by decide) rfl (SH_ref (by decide +kernel))).trans ?_
      refine (R_bipush (n := 40) (v := 40) (by decide +kernel) (by decide +kernel)).trans ?_
      refine (R_pure0 (ins := .iload_n 3) (len := 1) (loc' := [.ref 68, .int x1, .int x2, .int x3, .int x4, .int x5, .int x6, .int x6]) (st' := [.int x3, .int 40, .ref 70]) (by decide +kernel) (fun _ => rfl)).trans ?_
      refine (R_pure0 (ins := .imul) (len := 1) (loc' := [.ref 68, .int x1, .int x2, .int x3, .int x4, .int x5, .int x6, .int x6]) (st' := [.int (40 * x3), .ref 70]) (by decide +kernel) (fun _ => rfl)).trans ?_
      refine (R_pure0 (ins := .iload 4) (len := 2) (loc' := [.ref 68, .int x1, .int x2, .int x3, .int x4, .int x5, .int x6, .int x6]) (st' := [.int x4, .int (40 * x3), .ref 70]) (by decide +kernel) (fun _ => rfl)).trans ?_
      refine (R_pure0 (ins := .iadd) (len := 1) (loc' := [.ref 68, .int x1, .int x2, .int x3, .int x4, .int x5, .int x6, .int x6]) (st' := [.int ((40 * x3) + x4), .ref 70]) (by decide +kernel) (fun _ => rfl)).trans ?_
      refine (R_pure0 (ins := .iload 7) (len := 2) (loc' := [.ref 68, .int x1, .int x2, .int x3, .int x4, .int x5, .int x6, .int x6]) (st' := [.int x6, .int ((40 * x3) + x4), .ref 70]) (by decide +kernel) (fun _ => rfl)).trans ?_
      refine (R_pure0 (ins := .iadd) (len := 1) (loc' := [.ref 68, .int x1, .int x2, .int x3, .int x4, .int x5, .int x6, .int x6]) (st' := [.int (((40 * x3) + x4) + x6), .ref 70]) (by decide +kernel) (fun _ => rfl)).trans ?_
      refine (R_pure0 (ins := .aload_n 0) (len := 1) (loc' := [.ref 68, .int x1, .int x2, .int x3, .int x4, .int x5, .int x6, .int x6]) (st' := [.ref 68, .int (((40 * x3) + x4) + x6), .ref 70]) (by decide +kernel) (fun _ => rfl)).trans ?_
      refine (R_gr (i := 13) (ci := 10) (k := 1) (n := 33) (b := 70) (by decide +kernel) (by decide +kernel) (by decide) rfl (SH_ref (by decide +kernel))).trans ?_
      refine (R_bipush (n := 40) (v := 40) (by decide +kernel) (by decide +kernel)).trans ?_
      refine (R_pure0 (ins := .iload_n 1) (len := 1) (loc' := [.ref 68, .int x1, .int x2, .int x3, .int x4, .int x5, .int x6, .int x6]) (st' := [.int x1, .int 40, .ref 70, .int (((40 * x3) + x4) + x6), .ref 70]) (by decide +kernel) (fun _ => rfl)).trans ?_
      refine (R_pure0 (ins := .imul) (len := 1) (loc' := [.ref 68, .int x1, .int x2, .int x3, .int x4, .int x5, .int x6, .int x6]) (st' := [.int (40 * x1), .ref 70, .int (((40 * x3) + x4) + x6), .ref 70]) (by decide +kernel) (fun _ => rfl)).trans ?_
      refine (R_pure0 (ins := .iload_n 2) (len := 1) (loc' := [.ref 68, .int x1, .int x2, .int x3, .int x4, .int x5, .int x6, .int x6]) (st' := [.int x2, .int (40 * x1), .ref 70, .int (((40 * x3) + x4) + x6), .ref 70]) (by decide +kernel) (fun _ => rfl)).trans ?_
      refine (R_pure0 (ins := .iadd) (len := 1) (loc' := [.ref 68, .int x1, .int x2, .int x3, .int x4, .int x5, .int x6, .int x6]) (st' := [.int ((40 * x1) + x2), .ref 70, .int (((40 * x3) + x4) + x6), .ref 70]) (by decide +kernel) (fun _ => rfl)).trans ?_
      refine (R_pure0 (ins := .iload 7) (len := 2) (loc' := [.ref 68, .int x1, .int x2, .int x3, .int x4, .int x5, .int x6, .int x6]) (st' := [.int x6, .int ((40 * x1) + x2), .ref 70, .int (((40 * x3) + x4) + x6), .ref 70]) (by decide +kernel) (fun _ => rfl)).trans ?_
      refine (R_pure0 (ins := .iadd) (len := 1) (loc' := [.ref 68, .int x1, .int x2, .int x3, .int x4, .int x5, .int x6, .int x6]) (st' := [.int (((40 * x1) + x2) + x6), .ref 70, .int (((40 * x3) + x4) + x6), .ref 70]) (by decide +kernel) (fun _ => rfl)).trans ?_
      refine (R_iaload (kd := 100) (n := 240) (by decide +kernel) rfl (by decide) (h3 c0 c1)).trans ?_
      refine (R_iastore (n := 240) (by decide +kernel) rfl (h4 c0 c1)).trans ?_
      refine (R_iinc (k := 6) (n := 1) (x := x6) (v := (x6 + 1)) (loc' := [.ref 68, .int x1, .int x2, .int x3, .int x4, .int x5, .int (x6 + 1), .int x6]) (by decide +kernel) rfl rfl rfl).trans ?_
      refine (R_goto (off := (-59)) (t := 104) (by decide +kernel) (by decide +kernel)).trans ?_
      rfl
  · refine (R_iconst (n := 1) (v := 1) (by decide +kernel) (by decide +kernel)).trans ?_
    exact R_ireturn (by decide +kernel) (by decide +kernel)
theorem s162 {L : Nat} {mi : Nat → Nat → Int32} {ml : Nat → Nat → Int64} {d : Nat} {Q : Option Value → xM → Prop} {x1 : Int32} : Xm 162 [.ref 68, .int x1] (SH L, mi, ml, MR) (d + 1) Q =
    Xm 155 [.int x1] (SH L, mi, ml, MR) d (fun v μ' => X 162 4 [.ref 68, .int x1, xmk, xmk, xmk] (v.toList ++ []) μ' (d + 1) Q) := by
  rw [Xm_ent (n := 5) (loc := [.ref 68, .int x1, xmk, xmk, xmk]) (by decide +kernel) rfl]
  refine (R_pure0 (ins := .iload_n 1) (len := 1) (loc' := [.ref 68, .int x1, xmk, xmk, xmk]) (st' := [.int x1]) (by decide +kernel) (fun _ => rfl)).trans ?_
  refine (R_static (i := 93) (f := 155) (kd := 2) (na := 1) (ml := 1) (As := [.int x1]) (rest := []) (by decide +kernel) (by decide +kernel) (by decide) (by decide +kernel) rfl rfl (by decide +kernel) (Nat.le_of_ble_eq_true rfl)).trans ?_
  rfl
theorem s162_4 {L : Nat} {mi : Nat → Nat → Int32} {ml : Nat → Nat → Int64} {d : Nat} {Q : Option Value → xM → Prop} {x1 y : Int32} (h1 : ¬ (y = 0) → xin x1 6 = true) (h2 : ¬ (y = 0) → ¬ ((mi 69 x1.toNatClampNeg) < 0) → xin x1 6 = true) : X 162 4 [.ref 68, .int x1, xmk, xmk, xmk] [.int y] (SH L, mi, ml, MR) (d + 1) Q =
    if (y = 0) then (Q (some (.int (-1))) (SH L, mi, ml, MR)) else (if ((mi 69 x1.toNatClampNeg) < 0) then (Xm 152 [.ref 68, .int 1] (SH L, mi, ml, MR) d (fun v μ' => X 162 23 [.ref 68, .int x1, xmk, xmk, xmk] (v.toList ++ []) μ' (d + 1) Q)) else (if ((mi 69 x1.toNatClampNeg) = 0) then (Xm 152 [.ref 68, .int 4] (SH L, mi, ml, MR) d (fun v μ' => X 162 38 [.ref 68, .int x1, xmk, xmk, xmk] (v.toList ++ []) μ' (d + 1) Q)) else (X 162 44 [.ref 68, .int x1, .long 0, xmk, .int 0] [] (SH L, mi, ml, MR) (d + 1) Q))) := by
  refine (R_if_ne (off := 5) (t := 9) (by decide +kernel) (by decide +kernel)).trans (ite_congr rfl (fun c0 => ?_) (fun c0 => ?_))
  · refine (R_iconst (n := (-1)) (v := (-1)) (by decide +kernel) (by decide +kernel)).trans ?_
    exact R_ireturn (by decide +kernel) (by decide +kernel)
  · refine (R_pure0 (ins := .aload_n 0) (len := 1) (loc' := [.ref 68, .int x1, xmk, xmk, xmk]) (st' := [.ref 68]) (by decide +kernel) (fun _ => rfl)).trans ?_
    refine (R_gr (i := 7) (ci := 10) (k := 0) (n := 33) (b := 69) (by decide +kernel) (by decide +kernel) (by decide) rfl (SH_ref (by decide +kernel))).trans ?_
    refine (R_pure0 (ins := .iload_n 1) (len := 1) (loc' := [.ref 68, .int x1, xmk, xmk, xmk]) (st' := [.int x1, .ref 69]) (by decide +kernel) (fun _ => rfl)).trans ?_
    refine (R_iaload (kd := 100) (n := 6) (by decide +kernel) rfl (by decide) (h1 c0)).trans ?_
    refine (R_if_ge (off := 9) (t := 24) (by decide +kernel) (by decide +kernel)).trans (ite_congr rfl (fun c1 => ?_) (fun c1 => ?_))
    · refine (R_pure0 (ins := .aload_n 0) (len := 1) (loc' := [.ref 68, .int x1, xmk, xmk, xmk]) (st' := [.ref 68]) (by decide +kernel) (fun _ => rfl)).trans ?_
      refine (R_iconst (n := 1) (v := 1) (by decide +kernel) (by decide +kernel)).trans ?_
      refine (R_virt (i := 97) (f := 152) (kd := 0) (na := 1) (ml := 2) (ci := 10) (n := 33) (b := 68) (As := [.int 1]) (rest := []) (by decide +kernel) (by decide +kernel) (by decide) (by decide +kernel) rfl (by decide +kernel) rfl rfl (by decide +kernel) (Nat.le_of_ble_eq_true rfl)).trans ?_
      rfl
    · refine (R_pure0 (ins := .aload_n 0) (len := 1) (loc' := [.ref 68, .int x1, xmk, xmk, xmk]) (st' := [.ref 68]) (by decide +kernel) (fun _ => rfl)).trans ?_
      refine (R_gr (i := 7) (ci := 10) (k := 0) (n := 33) (b := 69) (by decide +kernel) (by decide +kernel) (by decide) rfl (SH_ref (by decide +kernel))).trans ?_
      refine (R_pure0 (ins := .iload_n 1) (len := 1) (loc' := [.ref 68, .int x1, xmk, xmk, xmk]) (st' := [.int x1, .ref 69]) (by decide +kernel) (fun _ => rfl)).trans ?_
      refine (R_iaload (kd := 100) (n := 6) (by decide +kernel) rfl (by decide) (h2 c0 c1)).trans ?_
      refine (R_if_ne (off := 9) (t := 39) (by decide +kernel) (by decide +kernel)).trans (ite_congr rfl (fun c2 => ?_) (fun c2 => ?_))
      · refine (R_pure0 (ins := .aload_n 0) (len := 1) (loc' := [.ref 68, .int x1, xmk, xmk, xmk]) (st' := [.ref 68]) (by decide +kernel) (fun _ => rfl)).trans ?_
        refine (R_iconst (n := 4) (v := 4) (by decide +kernel) (by decide +kernel)).trans ?_
        refine (R_virt (i := 97) (f := 152) (kd := 0) (na := 1) (ml := 2) (ci := 10) (n := 33) (b := 68) (As := [.int 4]) (rest := []) (by decide +kernel) (by decide +kernel) (by decide) (by decide +kernel) rfl (by decide +kernel) rfl rfl (by decide +kernel) (Nat.le_of_ble_eq_true rfl)).trans ?_
        rfl
      · refine (R_lconst (n := 0) (v := 0) (by decide +kernel) (by decide +kernel)).trans ?_
        refine (R_pure0 (ins := .lstore_n 2) (len := 1) (loc' := [.ref 68, .int x1, .long 0, xmk, xmk]) (st' := []) (by decide +kernel) (fun _ => rfl)).trans ?_
        refine (R_iconst (n := 0) (v := 0) (by decide +kernel) (by decide +kernel)).trans ?_
        refine (R_pure0 (ins := .istore 4) (len := 2) (loc' := [.ref 68, .int x1, .long 0, xmk, .int 0]) (st' := []) (by decide +kernel) (fun _ => rfl)).trans ?_
        rfl
theorem s162_23 {L : Nat} {mi : Nat → Nat → Int32} {ml : Nat → Nat → Int64} {d : Nat} {Q : Option Value → xM → Prop} {x1 y : Int32} : X 162 23 [.ref 68, .int x1, xmk, xmk, xmk] [.int y] (SH L, mi, ml, MR) d Q =
    Q (some (.int y)) (SH L, mi, ml, MR) := by
  exact R_ireturn (by decide +kernel) (by decide +kernel)
theorem s162_38 {L : Nat} {mi : Nat → Nat → Int32} {ml : Nat → Nat → Int64} {d : Nat} {Q : Option Value → xM → Prop} {x1 y : Int32} : X 162 38 [.ref 68, .int x1, xmk, xmk, xmk] [.int y] (SH L, mi, ml, MR) d Q =
    Q (some (.int y)) (SH L, mi, ml, MR) := by
  exact R_ireturn (by decide +kernel) (by decide +kernel)
theorem s162_44 {L : Nat} {mi : Nat → Nat → Int32} {ml : Nat → Nat → Int64} {d : Nat} {Q : Option Value → xM → Prop} {x1 x4 : Int32} {x2 : Int64} (h1 : xin x1 6 = true) (h2 : (x4 < (mi 69 x1.toNatClampNeg)) → xin ((40 * x1) + x4) 240 = true) (h3 : ¬ (x4 < (mi 69 x1.toNatClampNeg)) → xin x1 6 = true) (h4 : ¬ (x4 < (mi 69 x1.toNatClampNeg)) → ¬ (mi 69 x1.toNatClampNeg).toInt64 = 0) : X 162 44 [.ref 68, .int x1, .long x2, xmk, .int x4] [] (SH L, mi, ml, MR) (d + 1) Q =
    if (x4 < (mi 69 x1.toNatClampNeg)) then (X 162 44 [.ref 68, .int x1, .long (x2 + (mi 70 ((40 * x1) + x4).toNatClampNeg).toInt64), xmk, .int (x4 + 1)] [] (SH L, mi, ml, MR) (d + 1) Q) else (Xm 153 [.ref 68, .int (x2 / (mi 69 x1.toNatClampNeg).toInt64).toInt32] (SH L, mi, ml, MR) d (fun v μ' => X 162 91 [.ref 68, .int x1, .long x2, xmk, .int x4] (v.toList ++ []) μ' (d + 1) Q)) := by
  refine (R_pure0 (ins := .iload 4) (len := 2) (loc' := [.ref 68, .int x1, .long x2, xmk, .int x4]) (st' := [.int x4]) (by decide +kernel) (fun _ => rfl)).trans ?_
  refine (R_pure0 (ins := .aload_n 0) (len := 1) (loc' := [.ref 68, .int x1, .long x2, xmk, .int x4]) (st' := [.ref 68, .int x4]) (by decide +kernel) (fun _ => rfl)).trans ?_
  refine (R_gr (i := 7) (ci := 10) (k := 0) (n := 33) (b := 69) (by decide +kernel) (by decide +kernel) (by decide) rfl (SH_ref (by decide +kernel))).trans ?_
  refine (R_pure0 (ins := .iload_n 1) (len := 1) (loc' := [.ref 68, .int x1, .long x2, xmk, .int x4]) (st' := [.int x1, .ref 69, .int x4]) (by decide +kernel) (fun _ => rfl)).trans ?_
  refine (R_iaload (kd := 100) (n := 6) (by decide +kernel) rfl (by decide) (h1)).trans ?_
  refine (R_icmp_ge (off := 25) (t := 77) (by decide +kernel) (by decide +kernel)).trans (ite_congr rfl (fun c0 => ?_) (fun c0 => ?_))
  · refine (R_pure0 (ins := .lload_n 2) (len := 1) (loc' := [.ref 68, .int x1, .long x2, xmk, .int x4]) (st' := [.long x2]) (by decide +kernel) (fun _ => rfl)).trans ?_
    refine (R_pure0 (ins := .aload_n 0) (len := 1) (loc' := [.ref 68, .int x1, .long x2, xmk, .int x4]) (st' := [.ref 68, .long x2]) (by decide +kernel) (fun _ => rfl)).trans ?_
    refine (R_gr (i := 13) (ci := 10) (k := 1) (n := 33) (b := 70) (by decide +kernel) (by decide +kernel) (by decide) rfl (SH_ref (by decide +kernel))).trans ?_
    refine (R_bipush (n := 40) (v := 40) (by decide +kernel) (by decide +kernel)).trans ?_
    refine (R_pure0 (ins := .iload_n 1) (len := 1) (loc' := [.ref 68, .int x1, .long x2, xmk, .int x4]) (st' := [.int x1, .int 40, .ref 70, .long x2]) (by decide +kernel) (fun _ => rfl)).trans ?_
    refine (R_pure0 (ins := .imul) (len := 1) (loc' := [.ref 68, .int x1, .long x2, xmk, .int x4]) (st' := [.int (40 * x1), .ref 70, .long x2]) (by decide +kernel) (fun _ => rfl)).trans ?_
    refine (R_pure0 (ins := .iload 4) (len := 2) (loc' := [.ref 68, .int x1, .long x2, xmk, .int x4]) (st' := [.int x4, .int (40 * x1), .ref 70, .long x2]) (by decide +kernel) (fun _ => rfl)).trans ?_
    refine (R_pure0 (ins := .iadd) (len := 1) (loc' := [.ref 68, .int x1, .long x2, xmk, .int x4]) (st' := [.int ((40 * x1) + x4), .ref 70, .long x2]) (by decide +kernel) (fun _ => rfl)).trans ?_
    refine (R_iaload (kd := 100) (n := 240) (by decide +kernel) rfl (by decide) (h2 c0)).trans ?_
    refine (R_pure0 (ins := .i2l) (len := 1) (loc' := [.ref 68, .int x1, .long x2, xmk, .int x4]) (st' := [.long (mi 70 ((40 * x1) + x4).toNatClampNeg).toInt64, .long x2]) (by decide +kernel) (fun _ => rfl)).trans ?_
    refine (R_pure0 (ins := .ladd) (len := 1) (loc' := [.ref 68, .int x1, .long x2, xmk, .int x4]) (st' := [.long (x2 + (mi 70 ((40 * x1) + x4).toNatClampNeg).toInt64)]) (by decide +kernel) (fun _ => rfl)).trans ?_
    refine (R_pure0 (ins := .lstore_n 2) (len := 1) (loc' := [.ref 68, .int x1, .long (x2 + (mi 70 ((40 * x1) + x4).toNatClampNeg).toInt64), xmk, .int x4]) (st' := []) (by decide +kernel) (fun _ => rfl)).trans ?_
    refine (R_iinc (k := 4) (n := 1) (x := x4) (v := (x4 + 1)) (loc' := [.ref 68, .int x1, .long (x2 + (mi 70 ((40 * x1) + x4).toNatClampNeg).toInt64), xmk, .int (x4 + 1)]) (by decide +kernel) rfl rfl rfl).trans ?_
    refine (R_goto (off := (-30)) (t := 44) (by decide +kernel) (by decide +kernel)).trans ?_
    rfl
  · refine (R_pure0 (ins := .aload_n 0) (len := 1) (loc' := [.ref 68, .int x1, .long x2, xmk, .int x4]) (st' := [.ref 68]) (by decide +kernel) (fun _ => rfl)).trans ?_
    refine (R_pure0 (ins := .lload_n 2) (len := 1) (loc' := [.ref 68, .int x1, .long x2, xmk, .int x4]) (st' := [.long x2, .ref 68]) (by decide +kernel) (fun _ => rfl)).trans ?_
    refine (R_pure0 (ins := .aload_n 0) (len := 1) (loc' := [.ref 68, .int x1, .long x2, xmk, .int x4]) (st' := [.ref 68, .long x2, .ref 68]) (by decide +kernel) (fun _ => rfl)).trans ?_
    refine (R_gr (i := 7) (ci := 10) (k := 0) (n := 33) (b := 69) (by decide +kernel) (by decide +kernel) (by decide) rfl (SH_ref (by decide +kernel))).trans ?_
    refine (R_pure0 (ins := .iload_n 1) (len := 1) (loc' := [.ref 68, .int x1, .long x2, xmk, .int x4]) (st' := [.int x1, .ref 69, .long x2, .ref 68]) (by decide +kernel) (fun _ => rfl)).trans ?_
    refine (R_iaload (kd := 100) (n := 6) (by decide +kernel) rfl (by decide) (h3 c0)).trans ?_
    refine (R_pure0 (ins := .i2l) (len := 1) (loc' := [.ref 68, .int x1, .long x2, xmk, .int x4]) (st' := [.long (mi 69 x1.toNatClampNeg).toInt64, .long x2, .ref 68]) (by decide +kernel) (fun _ => rfl)).trans ?_
    refine (R_ldiv (x := x2) (y := (mi 69 x1.toNatClampNeg).toInt64) (by decide +kernel) (h4 c0)).trans ?_
    refine (R_pure0 (ins := .l2i) (len := 1) (loc' := [.ref 68, .int x1, .long x2, xmk, .int x4]) (st' := [.int (x2 / (mi 69 x1.toNatClampNeg).toInt64).toInt32, .ref 68]) (by decide +kernel) (fun _ => rfl)).trans ?_
    refine (R_virt (i := 101) (f := 153) (kd := 0) (na := 1) (ml := 2) (ci := 10) (n := 33) (b := 68) (As := [.int (x2 / (mi 69 x1.toNatClampNeg).toInt64).toInt32]) (rest := []) (by decide +kernel) (by decide +kernel) (by decide) (by decide +kernel) rfl (by decide +kernel) rfl rfl (by decide +kernel) (Nat.le_of_ble_eq_true rfl)).trans ?_
    rfl
theorem s162_91 {L : Nat} {mi : Nat → Nat → Int32} {ml : Nat → Nat → Int64} {d : Nat} {Q : Option Value → xM → Prop} {x1 x4 y : Int32} {x2 : Int64} : X 162 91 [.ref 68, .int x1, .long x2, xmk, .int x4] [.int y] (SH L, mi, ml, MR) d Q =
    Q (some (.int y)) (SH L, mi, ml, MR) := by
  exact R_ireturn (by decide +kernel) (by decide +kernel)
theorem s163 {L : Nat} {mi : Nat → Nat → Int32} {ml : Nat → Nat → Int64} {d : Nat} {Q : Option Value → xM → Prop} {x1 x2 : Int32} : Xm 163 [.ref 68, .int x1, .int x2] (SH L, mi, ml, MR) (d + 1) Q =
    Xm 156 [.int x1] (SH L, mi, ml, MR) d (fun v μ' => X 163 4 [.ref 68, .int x1, .int x2, xmk] (v.toList ++ []) μ' (d + 1) Q) := by
  rw [Xm_ent (n := 4) (loc := [.ref 68, .int x1, .int x2, xmk]) (by decide +kernel) rfl]
  refine (R_pure0 (ins := .iload_n 1) (len := 1) (loc' := [.ref 68, .int x1, .int x2, xmk]) (st' := [.int x1]) (by decide +kernel) (fun _ => rfl)).trans ?_
  refine (R_static (i := 104) (f := 156) (kd := 2) (na := 1) (ml := 1) (As := [.int x1]) (rest := []) (by decide +kernel) (by decide +kernel) (by decide) (by decide +kernel) rfl rfl (by decide +kernel) (Nat.le_of_ble_eq_true rfl)).trans ?_
  rfl
theorem s163_4 {L : Nat} {mi : Nat → Nat → Int32} {ml : Nat → Nat → Int64} {d : Nat} {Q : Option Value → xM → Prop} {x1 x2 y : Int32} (h1 : ¬ (y = 0) → ¬ ((60 : Int32) < x2) → ¬ (x2 < 0) → xin x1 4 = true) : X 163 4 [.ref 68, .int x1, .int x2, xmk] [.int y] (SH L, mi, ml, MR) (d + 1) Q =
    if (y = 0) then (Q (some (.int (-1))) (SH L, mi, ml, MR)) else (if ((60 : Int32) < x2) then (Q (some (.int (-1))) (SH L, mi, ml, MR)) else (if (x2 < 0) then (Xm 152 [.ref 68, .int 5] (SH L, mi, ml, MR) d (fun v μ' => X 163 24 [.ref 68, .int x1, .int x2, xmk] (v.toList ++ []) μ' (d + 1) Q)) else (X 163 34 [.ref 68, .int x1, .int x2, .int 0] [] (SH L, (xw mi 71 x1.toNatClampNeg x2), ml, MR) (d + 1) Q))) := by
  refine (R_if_eq (off := 9) (t := 13) (by decide +kernel) (by decide +kernel)).trans (ite_congr rfl (fun c0 => ?_) (fun c0 => ?_))
  · refine (R_iconst (n := (-1)) (v := (-1)) (by decide +kernel) (by decide +kernel)).trans ?_
    exact R_ireturn (by decide +kernel) (by decide +kernel)
  · refine (R_pure0 (ins := .iload_n 2) (len := 1) (loc' := [.ref 68, .int x1, .int x2, xmk]) (st' := [.int x2]) (by decide +kernel) (fun _ => rfl)).trans ?_
    refine (R_bipush (n := 60) (v := 60) (by decide +kernel) (by decide +kernel)).trans ?_
    refine (R_icmp_le (off := 5) (t := 15) (by decide +kernel) (by decide +kernel)).trans (ite_congr rfl (fun c1 => ?_) (fun c1 => ?_))
    · refine (R_iconst (n := (-1)) (v := (-1)) (by decide +kernel) (by decide +kernel)).trans ?_
      exact R_ireturn (by decide +kernel) (by decide +kernel)
    · refine (R_pure0 (ins := .iload_n 2) (len := 1) (loc' := [.ref 68, .int x1, .int x2, xmk]) (st' := [.int x2]) (by decide +kernel) (fun _ => rfl)).trans ?_
      refine (R_if_ge (off := 9) (t := 25) (by decide +kernel) (by decide +kernel)).trans (ite_congr rfl (fun c2 => ?_) (fun c2 => ?_))
      · refine (R_pure0 (ins := .aload_n 0) (len := 1) (loc' := [.ref 68, .int x1, .int x2, xmk]) (st' := [.ref 68]) (by decide +kernel) (fun _ => rfl)).trans ?_
        refine (R_iconst (n := 5) (v := 5) (by decide +kernel) (by decide +kernel)).trans ?_
        refine (R_virt (i := 97) (f := 152) (kd := 0) (na := 1) (ml := 2) (ci := 10) (n := 33) (b := 68) (As := [.int 5]) (rest := []) (by decide +kernel) (by decide +kernel) (by decide) (by decide +kernel) rfl (by decide +kernel) rfl rfl (by decide +kernel) (Nat.le_of_ble_eq_true rfl)).trans ?_
        rfl
      · refine (R_pure0 (ins := .aload_n 0) (len := 1) (loc' := [.ref 68, .int x1, .int x2, xmk]) (st' := [.ref 68]) (by decide +kernel) (fun _ => rfl)).trans ?_
        refine (R_gr (i := 16) (ci := 10) (k := 2) (n := 33) (b := 71) (by decide +kernel) (by decide +kernel) (by decide) rfl (SH_ref (by decide +kernel))).trans ?_
        refine (R_pure0 (ins := .iload_n 1) (len := 1) (loc' := [.ref 68, .int x1, .int x2, xmk]) (st' := [.int x1, .ref 71]) (by decide +kernel) (fun _ => rfl)).trans ?_
        refine (R_pure0 (ins := .iload_n 2) (len := 1) (loc' := [.ref 68, .int x1, .int x2, xmk]) (st' := [.int x2, .int x1, .ref 71]) (by decide +kernel) (fun _ => rfl)).trans ?_
        refine (R_iastore (n := 4) (by decide +kernel) rfl (h1 c0 c1 c2)).trans ?_
        refine (R_iconst (n := 0) (v := 0) (by decide +kernel) (by decide +kernel)).trans ?_
        refine (R_pure0 (ins := .istore_n 3) (len := 1) (loc' := [.ref 68, .int x1, .int x2, .int 0]) (st' := []) (by decide +kernel) (fun _ => rfl)).trans ?_
        rfl
theorem s163_24 {L : Nat} {mi : Nat → Nat → Int32} {ml : Nat → Nat → Int64} {d : Nat} {Q : Option Value → xM → Prop} {x1 x2 y : Int32} : X 163 24 [.ref 68, .int x1, .int x2, xmk] [.int y] (SH L, mi, ml, MR) d Q =
    Q (some (.int y)) (SH L, mi, ml, MR) := by
  exact R_ireturn (by decide +kernel) (by decide +kernel)
theorem s163_34 {L : Nat} {mi : Nat → Nat → Int32} {ml : Nat → Nat → Int64} {d : Nat} {Q : Option Value → xM → Prop} {x1 x2 x3 : Int32} (h1 : (x3 < 60) → xin ((60 * x1) + x3) 240 = true) : X 163 34 [.ref 68, .int x1, .int x2, .int x3] [] (SH L, mi, ml, MR) d Q =
    if (x3 < 60) then (X 163 34 [.ref 68, .int x1, .int x2, .int (x3 + 1)] [] (SH L, (xw mi 72 ((60 * x1) + x3).toNatClampNeg 32), ml, MR) d Q) else (Q (some (.int x2)) (SH L, mi, ml, MR)) := by
  refine (R_pure0 (ins := .iload_n 3) (len := 1) (loc' := [.ref 68, .int x1, .int x2, .int x3]) (st' := [.int x3]) (by decide +kernel) (fun _ => rfl)).trans ?_
  refine (R_bipush (n := 60) (v := 60) (by decide +kernel) (by decide +kernel)).trans ?_
  refine (R_icmp_ge (off := 22) (t := 59) (by decide +kernel) (by decide +kernel)).trans (ite_congr rfl (fun c0 => ?_) (fun c0 => ?_))
  · refine (R_pure0 (ins := .aload_n 0) (len := 1) (loc' := [.ref 68, .int x1, .int x2, .int x3]) (st' := [.ref 68]) (by decide +kernel) (fun _ => rfl)).trans ?_
    refine (R_gr (i := 19) (ci := 10) (k := 3) (n := 33) (b := 72) (by decide +kernel) (by decide +kernel) (by decide) rfl (SH_ref (by decide +kernel))).trans ?_
    refine (R_bipush (n := 60) (v := 60) (by decide +kernel) (by decide +kernel)).trans ?_
    refine (R_pure0 (ins := .iload_n 1) (len := 1) (loc' := [.ref 68, .int x1, .int x2, .int x3]) (st' := [.int x1, .int 60, .ref 72]) (by decide +kernel) (fun _ => rfl)).trans ?_
    refine (R_pure0 (ins := .imul) (len := 1) (loc' := [.ref 68, .int x1, .int x2, .int x3]) (st' := [.int (60 * x1), .ref 72]) (by decide +kernel) (fun _ => rfl)).trans ?_
    refine (R_pure0 (ins := .iload_n 3) (len := 1) (loc' := [.ref 68, .int x1, .int x2, .int x3]) (st' := [.int x3, .int (60 * x1), .ref 72]) (by decide +kernel) (fun _ => rfl)).trans ?_
    refine (R_pure0 (ins := .iadd) (len := 1) (loc' := [.ref 68, .int x1, .int x2, .int x3]) (st' := [.int ((60 * x1) + x3), .ref 72]) (by decide +kernel) (fun _ => rfl)).trans ?_
    refine (R_bipush (n := 32) (v := 32) (by decide +kernel) (by decide +kernel)).trans ?_
    refine (R_iastore (n := 240) (by decide +kernel) rfl (h1 c0)).trans ?_
    refine (R_iinc (k := 3) (n := 1) (x := x3) (v := (x3 + 1)) (loc' := [.ref 68, .int x1, .int x2, .int (x3 + 1)]) (by decide +kernel) rfl rfl rfl).trans ?_
    refine (R_goto (off := (-22)) (t := 34) (by decide +kernel) (by decide +kernel)).trans ?_
    rfl
  · refine (R_pure0 (ins := .iload_n 2) (len := 1) (loc' := [.ref 68, .int x1, .int x2, .int x3]) (st' := [.int x2]) (by decide +kernel) (fun _ => rfl)).trans ?_
    exact R_ireturn (by decide +kernel) (by decide +kernel)
theorem s164 {L : Nat} {mi : Nat → Nat → Int32} {ml : Nat → Nat → Int64} {d : Nat} {Q : Option Value → xM → Prop} {x1 x2 x3 : Int32} : Xm 164 [.ref 68, .int x1, .int x2, .int x3] (SH L, mi, ml, MR) (d + 1) Q =
    Xm 156 [.int x1] (SH L, mi, ml, MR) d (fun v μ' => X 164 4 [.ref 68, .int x1, .int x2, .int x3, xmk] (v.toList ++ []) μ' (d + 1) Q) := by
  rw [Xm_ent (n := 5) (loc := [.ref 68, .int x1, .int x2, .int x3, xmk]) (by decide +kernel) rfl]
  refine (R_pure0 (ins := .iload_n 1) (len := 1) (loc' := [.ref 68, .int x1, .int x2, .int x3, xmk]) (st' := [.int x1]) (by decide +kernel) (fun _ => rfl)).trans ?_
  refine (R_static (i := 104) (f := 156) (kd := 2) (na := 1) (ml := 1) (As := [.int x1]) (rest := []) (by decide +kernel) (by decide +kernel) (by decide) (by decide +kernel) rfl rfl (by decide +kernel) (Nat.le_of_ble_eq_true rfl)).trans ?_
  rfl
theorem s164_4 {L : Nat} {mi : Nat → Nat → Int32} {ml : Nat → Nat → Int64} {d : Nat} {Q : Option Value → xM → Prop} {x1 x2 x3 y : Int32} (h1 : ¬ (y = 0) → xin x1 4 = true) (h2 : ¬ (y = 0) → ¬ ((mi 71 x1.toNatClampNeg) < 0) → xin x1 4 = true) : X 164 4 [.ref 68, .int x1, .int x2, .int x3, xmk] [.int y] (SH L, mi, ml, MR) (d + 1) Q =
    if (y = 0) then (Q (some (.int (-1))) (SH L, mi, ml, MR)) else (if ((mi 71 x1.toNatClampNeg) < 0) then (Xm 152 [.ref 68, .int 1] (SH L, mi, ml, MR) d (fun v μ' => X 164 23 [.ref 68, .int x1, .int x2, .int x3, xmk] (v.toList ++ []) μ' (d + 1) Q)) else (Xm 149 [.long x2.toInt64, .long 0, .long ((mi 71 x1.toNatClampNeg) - 1).toInt64] (SH L, mi, ml, MR) d (fun v μ' => X 164 39 [.ref 68, .int x1, .int x2, .int x3, xmk] (v.toList ++ []) μ' (d + 1) Q))) := by
  refine (R_if_ne (off := 5) (t := 9) (by decide +kernel) (by decide +kernel)).trans (ite_congr rfl (fun c0 => ?_) (fun c0 => ?_))
  · refine (R_iconst (n := (-1)) (v := (-1)) (by decide +kernel) (by decide +kernel)).trans ?_
    exact R_ireturn (by decide +kernel) (by decide +kernel)
  · refine (R_pure0 (ins := .aload_n 0) (len := 1) (loc' := [.ref 68, .int x1, .int x2, .int x3, xmk]) (st' := [.ref 68]) (by decide +kernel) (fun _ => rfl)).trans ?_
    refine (R_gr (i := 16) (ci := 10) (k := 2) (n := 33) (b := 71) (by decide +kernel) (by decide +kernel) (by decide) rfl (SH_ref (by decide +kernel))).trans ?_
    refine (R_pure0 (ins := .iload_n 1) (len := 1) (loc' := [.ref 68, .int x1, .int x2, .int x3, xmk]) (st' := [.int x1, .ref 71]) (by decide +kernel) (fun _ => rfl)).trans ?_
    refine (R_iaload (kd := 100) (n := 4) (by decide +kernel) rfl (by decide) (h1 c0)).trans ?_
    refine (R_if_ge (off := 9) (t := 24) (by decide +kernel) (by decide +kernel)).trans (ite_congr rfl (fun c1 => ?_) (fun c1 => ?_))
    · refine (R_pure0 (ins := .aload_n 0) (len := 1) (loc' := [.ref 68, .int x1, .int x2, .int x3, xmk]) (st' := [.ref 68]) (by decide +kernel) (fun _ => rfl)).trans ?_
      refine (R_iconst (n := 1) (v := 1) (by decide +kernel) (by decide +kernel)).trans ?_
      refine (R_virt (i := 97) (f := 152) (kd := 0) (na := 1) (ml := 2) (ci := 10) (n := 33) (b := 68) (As := [.int 1]) (rest := []) (by decide +kernel) (by decide +kernel) (by decide) (by decide +kernel) rfl (by decide +kernel) rfl rfl (by decide +kernel) (Nat.le_of_ble_eq_true rfl)).trans ?_
      rfl
    · refine (R_pure0 (ins := .iload_n 2) (len := 1) (loc' := [.ref 68, .int x1, .int x2, .int x3, xmk]) (st' := [.int x2]) (by decide +kernel) (fun _ => rfl)).trans ?_
      refine (R_pure0 (ins := .i2l) (len := 1) (loc' := [.ref 68, .int x1, .int x2, .int x3, xmk]) (st' := [.long x2.toInt64]) (by decide +kernel) (fun _ => rfl)).trans ?_
      refine (R_lconst (n := 0) (v := 0) (by decide +kernel) (by decide +kernel)).trans ?_
      refine (R_pure0 (ins := .aload_n 0) (len := 1) (loc' := [.ref 68, .int x1, .int x2, .int x3, xmk]) (st' := [.ref 68, .long 0, .long x2.toInt64]) (by decide +kernel) (fun _ => rfl)).trans ?_
      refine (R_gr (i := 16) (ci := 10) (k := 2) (n := 33) (b := 71) (by decide +kernel) (by decide +kernel) (by decide) rfl (SH_ref (by decide +kernel))).trans ?_
      refine (R_pure0 (ins := .iload_n 1) (len := 1) (loc' := [.ref 68, .int x1, .int x2, .int x3, xmk]) (st' := [.int x1, .ref 71, .long 0, .long x2.toInt64]) (by decide +kernel) (fun _ => rfl)).trans ?_
      refine (R_iaload (kd := 100) (n := 4) (by decide +kernel) rfl (by decide) (h2 c0 c1)).trans ?_
      refine (R_iconst (n := 1) (v := 1) (by decide +kernel) (by decide +kernel)).trans ?_
      refine (R_pure0 (ins := .isub) (len := 1) (loc' := [.ref 68, .int x1, .int x2, .int x3, xmk]) (st' := [.int ((mi 71 x1.toNatClampNeg) - 1), .long 0, .long x2.toInt64]) (by decide +kernel) (fun _ => rfl)).trans ?_
      refine (R_pure0 (ins := .i2l) (len := 1) (loc' := [.ref 68, .int x1, .int x2, .int x3, xmk]) (st' := [.long ((mi 71 x1.toNatClampNeg) - 1).toInt64, .long 0, .long x2.toInt64]) (by decide +kernel) (fun _ => rfl)).trans ?_
      refine (R_static (i := 87) (f := 149) (kd := 2) (na := 3) (ml := 6) (As := [.long x2.toInt64, .long 0, .long ((mi 71 x1.toNatClampNeg) - 1).toInt64]) (rest := []) (by decide +kernel) (by decide +kernel) (by decide) (by decide +kernel) rfl rfl (by decide +kernel) (Nat.le_of_ble_eq_true rfl)).trans ?_
      rfl
theorem s164_23 {L : Nat} {mi : Nat → Nat → Int32} {ml : Nat → Nat → Int64} {d : Nat} {Q : Option Value → xM → Prop} {x1 x2 x3 y : Int32} : X 164 23 [.ref 68, .int x1, .int x2, .int x3, xmk] [.int y] (SH L, mi, ml, MR) d Q =
    Q (some (.int y)) (SH L, mi, ml, MR) := by
  exact R_ireturn (by decide +kernel) (by decide +kernel)
theorem s164_39 {L : Nat} {mi : Nat → Nat → Int32} {ml : Nat → Nat → Int64} {d : Nat} {Q : Option Value → xM → Prop} {x1 x2 x3 y : Int32} (h1 : ¬ (y = 0) → xin ((60 * x1) + x2) 240 = true) (h2 : ¬ (y = 0) → xin ((60 * x1) + x2) 240 = true) : X 164 39 [.ref 68, .int x1, .int x2, .int x3, xmk] [.int y] (SH L, mi, ml, MR) (d + 1) Q =
    if (y = 0) then (Xm 152 [.ref 68, .int 2] (SH L, mi, ml, MR) d (fun v μ' => X 164 47 [.ref 68, .int x1, .int x2, .int x3, xmk] (v.toList ++ []) μ' (d + 1) Q)) else (Q (some (.int ((mi 72 ((60 * x1) + x2).toNatClampNeg) + 1000))) (SH L, (xw mi 72 ((60 * x1) + x2).toNatClampNeg x3.toInt8.toInt32), ml, MR)) := by
  refine (R_if_ne (off := 9) (t := 48) (by decide +kernel) (by decide +kernel)).trans (ite_congr rfl (fun c0 => ?_) (fun c0 => ?_))
  · refine (R_pure0 (ins := .aload_n 0) (len := 1) (loc' := [.ref 68, .int x1, .int x2, .int x3, xmk]) (st' := [.ref 68]) (by decide +kernel) (fun _ => rfl)).trans ?_
    refine (R_iconst (n := 2) (v := 2) (by decide +kernel) (by decide +kernel)).trans ?_
    refine (R_virt (i := 97) (f := 152) (kd := 0) (na := 1) (ml := 2) (ci := 10) (n := 33) (b := 68) (As := [.int 2]) (rest := []) (by decide +kernel) (by decide +kernel) (by decide) (by decide +kernel) rfl (by decide +kernel) rfl rfl (by decide +kernel) (Nat.le_of_ble_eq_true rfl)).trans ?_
    rfl
  · refine (R_pure0 (ins := .aload_n 0) (len := 1) (loc' := [.ref 68, .int x1, .int x2, .int x3, xmk]) (st' := [.ref 68]) (by decide +kernel) (fun _ => rfl)).trans ?_
    refine (R_gr (i := 19) (ci := 10) (k := 3) (n := 33) (b := 72) (by decide +kernel) (by decide +kernel) (by decide) rfl (SH_ref (by decide +kernel))).trans ?_
    refine (R_bipush (n := 60) (v := 60) (by decide +kernel) (by decide +kernel)).trans ?_
    refine (R_pure0 (ins := .iload_n 1) (len := 1) (loc' := [.ref 68, .int x1, .int x2, .int x3, xmk]) (st' := [.int x1, .int 60, .ref 72]) (by decide +kernel) (fun _ => rfl)).trans ?_
    refine (R_pure0 (ins := .imul) (len := 1) (loc' := [.ref 68, .int x1, .int x2, .int x3, xmk]) (st' := [.int (60 * x1), .ref 72]) (by decide +kernel) (fun _ => rfl)).trans ?_
    refine (R_pure0 (ins := .iload_n 2) (len := 1) (loc' := [.ref 68, .int x1, .int x2, .int x3, xmk]) (st' := [.int x2, .int (60 * x1), .ref 72]) (by decide +kernel) (fun _ => rfl)).trans ?_
    refine (R_pure0 (ins := .iadd) (len := 1) (loc' := [.ref 68, .int x1, .int x2, .int x3, xmk]) (st' := [.int ((60 * x1) + x2), .ref 72]) (by decide +kernel) (fun _ => rfl)).trans ?_
    refine (R_iaload (kd := 100) (n := 240) (by decide +kernel) rfl (by decide) (h1 c0)).trans ?_
    refine (R_pure0 (ins := .istore 4) (len := 2) (loc' := [.ref 68, .int x1, .int x2, .int x3, .int (mi 72 ((60 * x1) + x2).toNatClampNeg)]) (st' := []) (by decide +kernel) (fun _ => rfl)).trans ?_
    refine (R_pure0 (ins := .aload_n 0) (len := 1) (loc' := [.ref 68, .int x1, .int x2, .int x3, .int (mi 72 ((60 * x1) + x2).toNatClampNeg)]) (st' := [.ref 68]) (by decide +kernel) (fun _ => rfl)).trans ?_
    refine (R_gr (i := 19) (ci := 10) (k := 3) (n := 33) (b := 72) (by decide +kernel) (by decide +kernel) (by decide) rfl (SH_ref (by decide +kernel))).trans ?_
    refine (R_bipush (n := 60) (v := 60) (by decide +kernel) (by decide +kernel)).trans ?_
    refine (R_pure0 (ins := .iload_n 1) (len := 1) (loc' := [.ref 68, .int x1, .int x2, .int x3, .int (mi 72 ((60 * x1) + x2).toNatClampNeg)]) (st' := [.int x1, .int 60, .ref 72]) (by decide +kernel) (fun _ => rfl)).trans ?_
    refine (R_pure0 (ins := .imul) (len := 1) (loc' := [.ref 68, .int x1, .int x2, .int x3, .int (mi 72 ((60 * x1) + x2).toNatClampNeg)]) (st' := [.int (60 * x1), .ref 72]) (by decide +kernel) (fun _ => rfl)).trans ?_
    refine (R_pure0 (ins := .iload_n 2) (len := 1) (loc' := [.ref 68, .int x1, .int x2, .int x3, .int (mi 72 ((60 * x1) + x2).toNatClampNeg)]) (st' := [.int x2, .int (60 * x1), .ref 72]) (by decide +kernel) (fun _ => rfl)).trans ?_
    refine (R_pure0 (ins := .iadd) (len := 1) (loc' := [.ref 68, .int x1, .int x2, .int x3, .int (mi 72 ((60 * x1) + x2).toNatClampNeg)]) (st' := [.int ((60 * x1) + x2), .ref 72]) (by decide +kernel) (fun _ => rfl)).trans ?_
    refine (R_pure0 (ins := .iload_n 3) (len := 1) (loc' := [.ref 68, .int x1, .int x2, .int x3, .int (mi 72 ((60 * x1) + x2).toNatClampNeg)]) (st' := [.int x3, .int ((60 * x1) + x2), .ref 72]) (by decide +kernel) (fun _ => rfl)).trans ?_
    refine (R_pure0 (ins := .i2b) (len := 1) (loc' := [.ref 68, .int x1, .int x2, .int x3, .int (mi 72 ((60 * x1) + x2).toNatClampNeg)]) (st' := [.int x3.toInt8.toInt32, .int ((60 * x1) + x2), .ref 72]) (by decide +kernel) (fun _ => rfl)).trans ?_
    refine (R_iastore (n := 240) (by decide +kernel) rfl (h2 c0)).trans ?_
    refine (R_pure0 (ins := .iload 4) (len := 2) (loc' := [.ref 68, .int x1, .int x2, .int x3, .int (mi 72 ((60 * x1) + x2).toNatClampNeg)]) (st' := [.int (mi 72 ((60 * x1) + x2).toNatClampNeg)]) (by decide +kernel) (fun _ => rfl)).trans ?_
    refine (R_sipush (n := 1000) (v := 1000) (by decide +kernel) (by decide +kernel)).trans ?_
    refine (R_pure0 (ins := .iadd) (len := 1) (loc' := [.ref 68, .int x1, .int x2, .int x3, .int (mi 72 ((60 * x1) + x2).toNatClampNeg)]) (st' := [.int ((mi 72 ((60 * x1) + x2).toNatClampNeg) + 1000)]) (by decide +kernel) (fun _ => rfl)).trans ?_
    exact R_ireturn (by decide +kernel) (by decide +kernel)
theorem s164_47 {L : Nat} {mi : Nat → Nat → Int32} {ml : Nat → Nat → Int64} {d : Nat} {Q : Option Value → xM → Prop} {x1 x2 x3 y : Int32} : X 164 47 [.ref 68, .int x1, .int x2, .int x3, xmk] [.int y] (SH L, mi, ml, MR) d Q =
    Q (some (.int y)) (SH L, mi, ml, MR) := by
  exact R_ireturn (by decide +kernel) (by decide +kernel)
theorem s165 {L : Nat} {mi : Nat → Nat → Int32} {ml : Nat → Nat → Int64} {d : Nat} {Q : Option Value → xM → Prop} {x1 : Int32} (h1 : xin x1 4 = true) (h2 : ((mi 68 19) < (mi 71 x1.toNatClampNeg)) → xin ((60 * x1) + (mi 68 19)) 240 = true) : Xm 165 [.ref 68, .int x1] (SH L, mi, ml, MR) d Q =
    if ((mi 68 19) < (mi 71 x1.toNatClampNeg)) then (Q (some (.int (mi 72 ((60 * x1) + (mi 68 19)).toNatClampNeg))) (SH L, mi, ml, MR)) else (Q (some (.int (-1000))) (SH L, mi, ml, MR)) := by
  rw [Xm_ent (n := 2) (loc := [.ref 68, .int x1]) (by decide +kernel) rfl]
  refine (R_pure0 (ins := .aload_n 0) (len := 1) (loc' := [.ref 68, .int x1]) (st' := [.ref 68]) (by decide +kernel) (fun _ => rfl)).trans ?_
  refine (R_gi (i := 107) (ci := 10) (k := 19) (n := 33) (by decide +kernel) (by decide +kernel) (by decide) rfl).trans ?_
  refine (R_pure0 (ins := .aload_n 0) (len := 1) (loc' := [.ref 68, .int x1]) (st' := [.ref 68, .int (mi 68 19)]) (by decide +kernel) (fun _ => rfl)).trans ?_
  refine (R_gr (i := 16) (ci := 10) (k := 2) (n := 33) (b := 71) (by decide +kernel) (by decide +kernel) (by decide) rfl (SH_ref (by decide +kernel))).trans ?_
  refine (R_pure0 (ins := .iload_n 1) (len := 1) (loc' := [.ref 68, .int x1]) (st' := [.int x1, .ref 71, .int (mi 68 19)]) (by decide +kernel) (fun _ => rfl)).trans ?_
  refine (R_iaload (kd := 100) (n := 4) (by decide +kernel) rfl (by decide) (h1)).trans ?_
  refine (R_icmp_ge (off := 20) (t := 30) (by decide +kernel) (by decide +kernel)).trans (ite_congr rfl (fun c0 => ?_) (fun c0 => ?_))
  · refine (R_pure0 (ins := .aload_n 0) (len := 1) (loc' := [.ref 68, .int x1]) (st' := [.ref 68]) (by decide +kernel) (fun _ => rfl)).trans ?_
    refine (R_gr (i := 19) (ci := 10) (k := 3) (n := 33) (b := 72) (by decide +kernel) (by decide +kernel) (by decide) rfl (SH_ref (by decide +kernel))).trans ?_
    refine (R_bipush (n := 60) (v := 60) (by decide +kernel) (by decide +kernel)).trans ?_
    refine (R_pure0 (ins := .iload_n 1) (len := 1) (loc' := [.ref 68, .int x1]) (st' := [.int x1, .int 60, .ref 72]) (by decide +kernel) (fun _ => rfl)).trans ?_
    refine (R_pure0 (ins := .imul) (len := 1) (loc' := [.ref 68, .int x1]) (st' := [.int (60 * x1), .ref 72]) (by decide +kernel) (fun _ => rfl)).trans ?_
    refine (R_pure0 (ins := .aload_n 0) (len := 1) (loc' := [.ref 68, .int x1]) (st' := [.ref 68, .int (60 * x1), .ref 72]) (by decide +kernel) (fun _ => rfl)).trans ?_
    refine (R_gi (i := 107) (ci := 10) (k := 19) (n := 33) (by decide +kernel) (by decide +kernel) (by decide) rfl).trans ?_
    refine (R_pure0 (ins := .iadd) (len := 1) (loc' := [.ref 68, .int x1]) (st' := [.int ((60 * x1) + (mi 68 19)), .ref 72]) (by decide +kernel) (fun _ => rfl)).trans ?_
    refine (R_iaload (kd := 100) (n := 240) (by decide +kernel) rfl (by decide) (h2 c0)).trans ?_
    refine (R_goto (off := 6) (t := 33) (by decide +kernel) (by decide +kernel)).trans ?_
    exact R_ireturn (by decide +kernel) (by decide +kernel)
  · refine (R_sipush (n := (-1000)) (v := (-1000)) (by decide +kernel) (by decide +kernel)).trans ?_
    exact R_ireturn (by decide +kernel) (by decide +kernel)
theorem s166 {L : Nat} {mi : Nat → Nat → Int32} {ml : Nat → Nat → Int64} {d : Nat} {Q : Option Value → xM → Prop} {x1 : Int32} : Xm 166 [.ref 68, .int x1] (SH L, mi, ml, MR) (d + 1) Q =
    Xm 165 [.ref 68, .int x1] (SH L, mi, ml, MR) d (fun v μ' => X 166 5 [.ref 68, .int x1] (v.toList ++ []) μ' (d + 1) Q) := by
  rw [Xm_ent (n := 2) (loc := [.ref 68, .int x1]) (by decide +kernel) rfl]
  refine (R_pure0 (ins := .aload_n 0) (len := 1) (loc' := [.ref 68, .int x1]) (st' := [.ref 68]) (by decide +kernel) (fun _ => rfl)).trans ?_
  refine (R_pure0 (ins := .iload_n 1) (len := 1) (loc' := [.ref 68, .int x1]) (st' := [.int x1, .ref 68]) (by decide +kernel) (fun _ => rfl)).trans ?_
  refine (R_virt (i := 110) (f := 165) (kd := 0) (na := 1) (ml := 2) (ci := 10) (n := 33) (b := 68) (As := [.int x1]) (rest := []) (by decide +kernel) (by decide +kernel) (by decide) (by decide +kernel) rfl (by decide +kernel) rfl rfl (by decide +kernel) (Nat.le_of_ble_eq_true rfl)).trans ?_
  rfl
theorem s166_5 {L : Nat} {mi : Nat → Nat → Int32} {ml : Nat → Nat → Int64} {d : Nat} {Q : Option Value → xM → Prop} {x1 y : Int32} : X 166 5 [.ref 68, .int x1] [.int y] (SH L, mi, ml, MR) d Q =
    if (y = 32) then (X 166 0 [.ref 68, .int x1] [] (SH L, (xw mi 68 19 ((mi 68 19) + 1)), ml, MR) d Q) else (Q none (SH L, mi, ml, MR)) := by
  refine (R_bipush (n := 32) (v := 32) (by decide +kernel) (by decide +kernel)).trans ?_
  refine (R_icmp_ne (off := 16) (t := 23) (by decide +kernel) (by decide +kernel)).trans (ite_congr rfl (fun c0 => ?_) (fun c0 => ?_))
  · refine (R_pure0 (ins := .aload_n 0) (len := 1) (loc' := [.ref 68, .int x1]) (st' := [.ref 68]) (by decide +kernel) (fun _ => rfl)).trans ?_
    refine (R_pure0 (ins := .dup) (len := 1) (loc' := [.ref 68, .int x1]) (st' := [.ref 68, .ref 68]) (by decide +kernel) (fun _ => rfl)).trans ?_
    refine (R_gi (i := 107) (ci := 10) (k := 19) (n := 33) (by decide +kernel) (by decide +kernel) (by decide) rfl).trans ?_
    refine (R_iconst (n := 1) (v := 1) (by decide +kernel) (by decide +kernel)).trans ?_
    refine (R_pure0 (ins := .iadd) (len := 1) (loc' := [.ref 68, .int x1]) (st' := [.int ((mi 68 19) + 1), .ref 68]) (by decide +kernel) (fun _ => rfl)).trans ?_
    refine (R_pi (i := 107) (ci := 10) (k := 19) (n := 33) (by decide +kernel) (by decide +kernel) (by decide) rfl).trans ?_
    refine (R_goto (off := (-20)) (t := 0) (by decide +kernel) (by decide +kernel)).trans ?_
    rfl
  · exact R_return (by decide +kernel) (by decide +kernel)
theorem s166_0 {L : Nat} {mi : Nat → Nat → Int32} {ml : Nat → Nat → Int64} {d : Nat} {Q : Option Value → xM → Prop} {x1 : Int32} : X 166 0 [.ref 68, .int x1] [] (SH L, mi, ml, MR) (d + 1) Q =
    Xm 165 [.ref 68, .int x1] (SH L, mi, ml, MR) d (fun v μ' => X 166 5 [.ref 68, .int x1] (v.toList ++ []) μ' (d + 1) Q) := by
  refine (R_pure0 (ins := .aload_n 0) (len := 1) (loc' := [.ref 68, .int x1]) (st' := [.ref 68]) (by decide +kernel) (fun _ => rfl)).trans ?_
  refine (R_pure0 (ins := .iload_n 1) (len := 1) (loc' := [.ref 68, .int x1]) (st' := [.int x1, .ref 68]) (by decide +kernel) (fun _ => rfl)).trans ?_
  refine (R_virt (i := 110) (f := 165) (kd := 0) (na := 1) (ml := 2) (ci := 10) (n := 33) (b := 68) (As := [.int x1]) (rest := []) (by decide +kernel) (by decide +kernel) (by decide) (by decide +kernel) rfl (by decide +kernel) rfl rfl (by decide +kernel) (Nat.le_of_ble_eq_true rfl)).trans ?_
  rfl
theorem s167 {L : Nat} {mi : Nat → Nat → Int32} {ml : Nat → Nat → Int64} {d : Nat} {Q : Option Value → xM → Prop} {x0 : Int32} : Xm 167 [.int x0] (SH L, mi, ml, MR) d Q =
    if (x0 = 98) then (Q (some (.int 0)) (SH L, mi, ml, MR)) else (if (x0 = 114) then (Q (some (.int 1)) (SH L, mi, ml, MR)) else (if (x0 = 100) then (Q (some (.int 2)) (SH L, mi, ml, MR)) else (if (x0 = 111) then (Q (some (.int 3)) (SH L, mi, ml, MR)) else (if (x0 = 99) then (Q (some (.int 4)) (SH L, mi, ml, MR)) else (if (x0 = 115) then (Q (some (.int 5)) (SH L, mi, ml, MR)) else (Q (some (.int (-1))) (SH L, mi, ml, MR))))))) := by
  rw [Xm_ent (n := 1) (loc := [.int x0]) (by decide +kernel) rfl]
  refine (R_pure0 (ins := .iload_n 0) (len := 1) (loc' := [.int x0]) (st' := [.int x0]) (by decide +kernel) (fun _ => rfl)).trans ?_
  refine (R_bipush (n := 98) (v := 98) (by decide +kernel) (by decide +kernel)).trans ?_
  refine (R_icmp_ne (off := 7) (t := 10) (by decide +kernel) (by decide +kernel)).trans (ite_congr rfl (fun c0 => ?_) (fun c0 => ?_))
  · refine (R_iconst (n := 0) (v := 0) (by decide +kernel) (by decide +kernel)).trans ?_
    refine (R_goto (off := 54) (t := 61) (by decide +kernel) (by decide +kernel)).trans ?_
    exact R_ireturn (by decide +kernel) (by decide +kernel)
  · refine (R_pure0 (ins := .iload_n 0) (len := 1) (loc' := [.int x0]) (st' := [.int x0]) (by decide +kernel) (fun _ => rfl)).trans ?_
    refine (R_bipush (n := 114) (v := 114) (by decide +kernel) (by decide +kernel)).trans ?_
    refine (R_icmp_ne (off := 7) (t := 20) (by decide +kernel) (by decide +kernel)).trans (ite_congr rfl (fun c1 => ?_) (fun c1 => ?_))
    · refine (R_iconst (n := 1) (v := 1) (by decide +kernel) (by decide +kernel)).trans ?_
      refine (R_goto (off := 44) (t := 61) (by decide +kernel) (by decide +kernel)).trans ?_
      exact R_ireturn (by decide +kernel) (by decide +kernel)
    · refine (R_pure0 (ins := .iload_n 0) (len := 1) (loc' := [.int x0]) (st' := [.int x0]) (by decide +kernel) (fun _ => rfl)).trans ?_
      refine (R_bipush (n := 100) (v := 100) (by decide +kernel) (by decide +kernel)).trans ?_
      refine (R_icmp_ne (off := 7) (t := 30) (by decide +kernel) (by decide +kernel)).trans (ite_congr rfl (fun c2 => ?_) (fun c2 => ?_))
      · refine (R_iconst (n := 2) (v := 2) (by decide +kernel) (by decide +kernel)).trans ?_
        refine (R_goto (off := 34) (t := 61) (by decide +kernel) (by decide +kernel)).trans ?_
        exact R_ireturn (by decide +kernel) (by decide +kernel)
      · refine (R_pure0 (ins := .iload_n 0) (len := 1) (loc' := [.int x0]) (st' := [.int x0]) (by decide +kernel) (fun _ => rfl)).trans ?_
        refine (R_bipush (n := 111) (v := 111) (by decide +kernel) (by decide +kernel)).trans ?_
        refine (R_icmp_ne (off := 7) (t := 40) (by decide +kernel) (by decide +kernel)).trans (ite_congr rfl (fun c3 => ?_) (fun c3 => ?_))
        · refine (R_iconst (n := 3) (v := 3) (by decide +kernel) (by decide +kernel)).trans ?_
          refine (R_goto (off := 24) (t := 61) (by decide +kernel) (by decide +kernel)).trans ?_
          exact R_ireturn (by decide +kernel) (by decide +kernel)
        · refine (R_pure0 (ins := .iload_n 0) (len := 1) (loc' := [.int x0]) (st' := [.int x0]) (by decide +kernel) (fun _ => rfl)).trans ?_
          refine (R_bipush (n := 99) (v := 99) (by decide +kernel) (by decide +kernel)).trans ?_
          refine (R_icmp_ne (off := 7) (t := 50) (by decide +kernel) (by decide +kernel)).trans (ite_congr rfl (fun c4 => ?_) (fun c4 => ?_))
          · refine (R_iconst (n := 4) (v := 4) (by decide +kernel) (by decide +kernel)).trans ?_
            refine (R_goto (off := 14) (t := 61) (by decide +kernel) (by decide +kernel)).trans ?_
            exact R_ireturn (by decide +kernel) (by decide +kernel)
          · refine (R_pure0 (ins := .iload_n 0) (len := 1) (loc' := [.int x0]) (st' := [.int x0]) (by decide +kernel) (fun _ => rfl)).trans ?_
            refine (R_bipush (n := 115) (v := 115) (by decide +kernel) (by decide +kernel)).trans ?_
            refine (R_icmp_ne (off := 7) (t := 60) (by decide +kernel) (by decide +kernel)).trans (ite_congr rfl (fun c5 => ?_) (fun c5 => ?_))
            · refine (R_iconst (n := 5) (v := 5) (by decide +kernel) (by decide +kernel)).trans ?_
              refine (R_goto (off := 4) (t := 61) (by decide +kernel) (by decide +kernel)).trans ?_
              exact R_ireturn (by decide +kernel) (by decide +kernel)
            · refine (R_iconst (n := (-1)) (v := (-1)) (by decide +kernel) (by decide +kernel)).trans ?_
              exact R_ireturn (by decide +kernel) (by decide +kernel)
theorem s168 {L : Nat} {mi : Nat → Nat → Int32} {ml : Nat → Nat → Int64} {d : Nat} {Q : Option Value → xM → Prop} {x1 : Int32} : Xm 168 [.ref 68, .int x1] (SH L, mi, ml, MR) (d + 1) Q =
    Xm 165 [.ref 68, .int x1] (SH L, mi, ml, MR) d (fun v μ' => X 168 5 [.ref 68, .int x1, xmk, xmk, xmk, xmk] (v.toList ++ []) μ' (d + 1) Q) := by
  rw [Xm_ent (n := 6) (loc := [.ref 68, .int x1, xmk, xmk, xmk, xmk]) (by decide +kernel) rfl]
  refine (R_pure0 (ins := .aload_n 0) (len := 1) (loc' := [.ref 68, .int x1, xmk, xmk, xmk, xmk]) (st' := [.ref 68]) (by decide +kernel) (fun _ => rfl)).trans ?_
  refine (R_pure0 (ins := .iload_n 1) (len := 1) (loc' := [.ref 68, .int x1, xmk, xmk, xmk, xmk]) (st' := [.int x1, .ref 68]) (by decide +kernel) (fun _ => rfl)).trans ?_
  refine (R_virt (i := 110) (f := 165) (kd := 0) (na := 1) (ml := 2) (ci := 10) (n := 33) (b := 68) (As := [.int x1]) (rest := []) (by decide +kernel) (by decide +kernel) (by decide) (by decide +kernel) rfl (by decide +kernel) rfl rfl (by decide +kernel) (Nat.le_of_ble_eq_true rfl)).trans ?_
  rfl
theorem s168_5 {L : Nat} {mi : Nat → Nat → Int32} {ml : Nat → Nat → Int64} {d : Nat} {Q : Option Value → xM → Prop} {x1 y : Int32} : X 168 5 [.ref 68, .int x1, xmk, xmk, xmk, xmk] [.int y] (SH L, mi, ml, MR) (d + 1) Q =
    Xm 167 [.int y] (SH L, mi, ml, MR) d (fun v μ' => X 168 8 [.ref 68, .int x1, xmk, xmk, xmk, xmk] (v.toList ++ []) μ' (d + 1) Q) := by
  refine (R_static (i := 113) (f := 167) (kd := 2) (na := 1) (ml := 1) (As := [.int y]) (rest := []) (by decide +kernel) (by decide +kernel) (by decide) (by decide +kernel) rfl rfl (by decide +kernel) (Nat.le_of_ble_eq_true rfl)).trans ?_
  rfl
theorem s168_8 {L : Nat} {mi : Nat → Nat → Int32} {ml : Nat → Nat → Int64} {d : Nat} {Q : Option Value → xM → Prop} {x1 y : Int32} (h1 : ¬ (y < 0) → ¬ ((mi 68 20) = 6) → xin (4 * ((xw mi 68 19 ((mi 68 19) + 1)) 68 20)) 24 = true) : X 168 8 [.ref 68, .int x1, xmk, xmk, xmk, xmk] [.int y] (SH L, mi, ml, MR) d Q =
    if (y < 0) then (Q (some (.int 0)) (SH L, mi, ml, MR)) else (if ((mi 68 20) = 6) then (Q (some (.int 0)) (SH L, mi, ml, MR)) else (X 168 51 [.ref 68, .int x1, .int y, .int (4 * ((xw mi 68 19 ((mi 68 19) + 1)) 68 20)), .int 1, xmk] [] (SH L, (xw (xw mi 68 19 ((mi 68 19) + 1)) 82 (4 * ((xw mi 68 19 ((mi 68 19) + 1)) 68 20)).toNatClampNeg y), ml, MR) d Q)) := by
  refine (R_pure0 (ins := .istore_n 2) (len := 1) (loc' := [.ref 68, .int x1, .int y, xmk, xmk, xmk]) (st' := []) (by decide +kernel) (fun _ => rfl)).trans ?_
  refine (R_pure0 (ins := .iload_n 2) (len := 1) (loc' := [.ref 68, .int x1, .int y, xmk, xmk, xmk]) (st' := [.int y]) (by decide +kernel) (fun _ => rfl)).trans ?_
  refine (R_if_lt (off := 12) (t := 22) (by decide +kernel) (by decide +kernel)).trans (ite_congr rfl (fun c0 => ?_) (fun c0 => ?_))
  · refine (R_iconst (n := 0) (v := 0) (by decide +kernel) (by decide +kernel)).trans ?_
    exact R_zreturn (by decide +kernel) (by decide +kernel) (by decide)
  · refine (R_pure0 (ins := .aload_n 0) (len := 1) (loc' := [.ref 68, .int x1, .int y, xmk, xmk, xmk]) (st' := [.ref 68]) (by decide +kernel) (fun _ => rfl)).trans ?_
    refine (R_gi (i := 116) (ci := 10) (k := 20) (n := 33) (by decide +kernel) (by decide +kernel) (by decide) rfl).trans ?_
    refine (R_bipush (n := 6) (v := 6) (by decide +kernel) (by decide +kernel)).trans ?_
    refine (R_icmp_ne (off := 5) (t := 24) (by decide +kernel) (by decide +kernel)).trans (ite_congr rfl (fun c1 => ?_) (fun c1 => ?_))
    · refine (R_iconst (n := 0) (v := 0) (by decide +kernel) (by decide +kernel)).trans ?_
      exact R_zreturn (by decide +kernel) (by decide +kernel) (by decide)
    · refine (R_pure0 (ins := .aload_n 0) (len := 1) (loc' := [.ref 68, .int x1, .int y, xmk, xmk, xmk]) (st' := [.ref 68]) (by decide +kernel) (fun _ => rfl)).trans ?_
      refine (R_pure0 (ins := .dup) (len := 1) (loc' := [.ref 68, .int x1, .int y, xmk, xmk, xmk]) (st' := [.ref 68, .ref 68]) (by decide +kernel) (fun _ => rfl)).trans ?_
      refine (R_gi (i := 107) (ci := 10) (k := 19) (n := 33) (by decide +kernel) (by decide +kernel) (by decide) rfl).trans ?_
      refine (R_iconst (n := 1) (v := 1) (by decide +kernel) (by decide +kernel)).trans ?_
      refine (R_pure0 (ins := .iadd) (len := 1) (loc' := [.ref 68, .int x1, .int y, xmk, xmk, xmk]) (st' := [.int ((mi 68 19) + 1), .ref 68]) (by decide +kernel) (fun _ => rfl)).trans ?_
      refine (R_pi (i := 107) (ci := 10) (k := 19) (n := 33) (by decide +kernel) (by decide +kernel) (by decide) rfl).trans ?_
      refine (R_iconst (n := 4) (v := 4) (by decide +kernel) (by decide +kernel)).trans ?_
      refine (R_pure0 (ins := .aload_n 0) (len := 1) (loc' := [.ref 68, .int x1, .int y, xmk, xmk, xmk]) (st' := [.ref 68, .int 4]) (by decide +kernel) (fun _ => rfl)).trans ?_
      refine (R_gi (i := 116) (ci := 10) (k := 20) (n := 33) (by decide +kernel) (by decide +kernel) (by decide) rfl).trans ?_
      refine (R_pure0 (ins := .imul) (len := 1) (loc' := [.ref 68, .int x1, .int y, xmk, xmk, xmk]) (st' := [.int (4 * ((xw mi 68 19 ((mi 68 19) + 1)) 68 20))]) (by decide +kernel) (fun _ => rfl)).trans ?_
      refine (R_pure0 (ins := .istore_n 3) (len := 1) (loc' := [.ref 68, .int x1, .int y, .int (4 * ((xw mi 68 19 ((mi 68 19) + 1)) 68 20)), xmk, xmk]) (st' := []) (by decide +kernel) (fun _ => rfl)).trans ?_
      refine (R_pure0 (ins := .aload_n 0) (len := 1) (loc' := [.ref 68, .int x1, .int y, .int (4 * ((xw mi 68 19 ((mi 68 19) + 1)) 68 20)), xmk, xmk]) (st' := [.ref 68]) (by decide +kernel) (fun _ => rfl)).trans ?_
      refine (R_gr (i := 54) (ci := 10) (k := 21) (n := 33) (b := 82) (by decide +kernel) (by decide +kernel) (by decide) rfl (SH_ref (by decide +kernel))).trans ?_
      refine (R_pure0 (ins := .iload_n 3) (len := 1) (loc' := [.ref 68, .int x1, .int y, .int (4 * ((xw mi 68 19 ((mi 68 19) + 1)) 68 20)), xmk, xmk]) (st' := [.int (4 * ((xw mi 68 19 ((mi 68 19) + 1)) 68 20)), .ref 82]) (by decide +kernel) (fun _ => rfl)).trans ?_
      refine (R_pure0 (ins := .iload_n 2) (len := 1) (loc' := [.ref 68, .int x1, .int y, .int (4 * ((xw mi 68 19 ((mi 68 19) + 1)) 68 20)), xmk, xmk]) (st' := [.int y, .int (4 * ((xw mi 68 19 ((mi 68 19) + 1)) 68 20)), .ref 82]) (by decide +kernel) (fun _ => rfl)).trans ?_
      refine (R_iastore (n := 24) (by decide +kernel) rfl (h1 c0 c1)).trans ?_
      refine (R_iconst (n := 1) (v := 1) (by decide +kernel) (by decide +kernel)).trans ?_
      refine (R_pure0 (ins := .istore 4) (len := 2) (loc' := [.ref 68, .int x1, .int y, .int (4 * ((xw mi 68 19 ((mi 68 19) + 1)) 68 20)), .int 1, xmk]) (st' := []) (by decide +kernel) (fun _ => rfl)).trans ?_
      rfl
theorem s168_51 {L : Nat} {mi : Nat → Nat → Int32} {ml : Nat → Nat → Int64} {d : Nat} {Q : Option Value → xM → Prop} {x1 x2 x3 x4 : Int32} : X 168 51 [.ref 68, .int x1, .int x2, .int x3, .int x4, xmk] [] (SH L, mi, ml, MR) (d + 1) Q =
    if (x4 < 4) then (Xm 165 [.ref 68, .int x1] (SH L, mi, ml, MR) d (fun v μ' => X 168 62 [.ref 68, .int x1, .int x2, .int x3, .int x4, xmk] (v.toList ++ []) μ' (d + 1) Q)) else (Q (some (.int 1)) (SH L, (xw mi 68 20 ((mi 68 20) + 1)), ml, MR)) := by
  refine (R_pure0 (ins := .iload 4) (len := 2) (loc' := [.ref 68, .int x1, .int x2, .int x3, .int x4, xmk]) (st' := [.int x4]) (by decide +kernel) (fun _ => rfl)).trans ?_
  refine (R_iconst (n := 4) (v := 4) (by decide +kernel) (by decide +kernel)).trans ?_
  refine (R_icmp_ge (off := 65) (t := 119) (by decide +kernel) (by decide +kernel)).trans (ite_congr rfl (fun c0 => ?_) (fun c0 => ?_))
  · refine (R_pure0 (ins := .aload_n 0) (len := 1) (loc' := [.ref 68, .int x1, .int x2, .int x3, .int x4, xmk]) (st' := [.ref 68]) (by decide +kernel) (fun _ => rfl)).trans ?_
    refine (R_pure0 (ins := .iload_n 1) (len := 1) (loc' := [.ref 68, .int x1, .int x2, .int x3, .int x4, xmk]) (st' := [.int x1, .ref 68]) (by decide +kernel) (fun _ => rfl)).trans ?_
    refine (R_virt (i := 110) (f := 165) (kd := 0) (na := 1) (ml := 2) (ci := 10) (n := 33) (b := 68) (As := [.int x1]) (rest := []) (by decide +kernel) (by decide +kernel) (by decide) (by decide +kernel) rfl (by decide +kernel) rfl rfl (by decide +kernel) (Nat.le_of_ble_eq_true rfl)).trans ?_
    rfl
  · refine (R_pure0 (ins := .aload_n 0) (len := 1) (loc' := [.ref 68, .int x1, .int x2, .int x3, .int x4, xmk]) (st' := [.ref 68]) (by decide +kernel) (fun _ => rfl)).trans ?_
    refine (R_pure0 (ins := .dup) (len := 1) (loc' := [.ref 68, .int x1, .int x2, .int x3, .int x4, xmk]) (st' := [.ref 68, .ref 68]) (by decide +kernel) (fun _ => rfl)).trans ?_
    refine (R_gi (i := 116) (ci := 10) (k := 20) (n := 33) (by decide +kernel) (by decide +kernel) (by decide) rfl).trans ?_
    refine (R_iconst (n := 1) (v := 1) (by decide +kernel) (by decide +kernel)).trans ?_
    refine (R_pure0 (ins := .iadd) (len := 1) (loc' := [.ref 68, .int x1, .int x2, .int x3, .int x4, xmk]) (st' := [.int ((mi 68 20) + 1), .ref 68]) (by decide +kernel) (fun _ => rfl)).trans ?_
    refine (R_pi (i := 116) (ci := 10) (k := 20) (n := 33) (by decide +kernel) (by decide +kernel) (by decide) rfl).trans ?_
    refine (R_iconst (n := 1) (v := 1) (by decide +kernel) (by decide +kernel)).trans ?_
    exact R_zreturn (by decide +kernel) (by decide +kernel) (by decide)
theorem s168_62 {L : Nat} {mi : Nat → Nat → Int32} {ml : Nat → Nat → Int64} {d : Nat} {Q : Option Value → xM → Prop} {x1 x2 x3 x4 y : Int32} : X 168 62 [.ref 68, .int x1, .int x2, .int x3, .int x4, xmk] [.int y] (SH L, mi, ml, MR) (d + 1) Q =
    if (x4 = 2) then (Xm 149 [.long (y - 48).toInt64, .long 1, .long 9] (SH L, mi, ml, MR) d (fun v μ' => X 168 87 [.ref 68, .int x1, .int x2, .int x3, .int x4, .int (y - 48)] (v.toList ++ []) μ' (d + 1) Q)) else (Xm 149 [.long (y - 48).toInt64, .long 0, .long 9] (SH L, mi, ml, MR) d (fun v μ' => X 168 87 [.ref 68, .int x1, .int x2, .int x3, .int x4, .int (y - 48)] (v.toList ++ []) μ' (d + 1) Q)) := by
  refine (R_bipush (n := 48) (v := 48) (by decide +kernel) (by decide +kernel)).trans ?_
  refine (R_pure0 (ins := .isub) (len := 1) (loc' := [.ref 68, .int x1, .int x2, .int x3, .int x4, xmk]) (st' := [.int (y - 48)]) (by decide +kernel) (fun _ => rfl)).trans ?_
  refine (R_pure0 (ins := .istore 5) (len := 2) (loc' := [.ref 68, .int x1, .int x2, .int x3, .int x4, .int (y - 48)]) (st' := []) (by decide +kernel) (fun _ => rfl)).trans ?_
  refine (R_pure0 (ins := .iload 5) (len := 2) (loc' := [.ref 68, .int x1, .int x2, .int x3, .int x4, .int (y - 48)]) (st' := [.int (y - 48)]) (by decide +kernel) (fun _ => rfl)).trans ?_
  refine (R_pure0 (ins := .i2l) (len := 1) (loc' := [.ref 68, .int x1, .int x2, .int x3, .int x4, .int (y - 48)]) (st' := [.long (y - 48).toInt64]) (by decide +kernel) (fun _ => rfl)).trans ?_
  refine (R_pure0 (ins := .iload 4) (len := 2) (loc' := [.ref 68, .int x1, .int x2, .int x3, .int x4, .int (y - 48)]) (st' := [.int x4, .long (y - 48).toInt64]) (by decide +kernel) (fun _ => rfl)).trans ?_
  refine (R_iconst (n := 2) (v := 2) (by decide +kernel) (by decide +kernel)).trans ?_
  refine (R_icmp_ne (off := 7) (t := 80) (by decide +kernel) (by decide +kernel)).trans (ite_congr rfl (fun c0 => ?_) (fun c0 => ?_))
  · refine (R_lconst (n := 1) (v := 1) (by decide +kernel) (by decide +kernel)).trans ?_
    refine (R_goto (off := 4) (t := 81) (by decide +kernel) (by decide +kernel)).trans ?_
    refine (R_ldc2 (i := 119) (v := 9) (by decide +kernel) (by decide +kernel)).trans ?_
    refine (R_static (i := 87) (f := 149) (kd := 2) (na := 3) (ml := 6) (As := [.long (y - 48).toInt64, .long 1, .long 9]) (rest := []) (by decide +kernel) (by decide +kernel) (by decide) (by decide +kernel) rfl rfl (by decide +kernel) (Nat.le_of_ble_eq_true rfl)).trans ?_
    rfl
  · refine (R_lconst (n := 0) (v := 0) (by decide +kernel) (by decide +kernel)).trans ?_
    refine (R_ldc2 (i := 119) (v := 9) (by decide +kernel) (by decide +kernel)).trans ?_
    refine (R_static (i := 87) (f := 149) (kd := 2) (na := 3) (ml := 6) (As := [.long (y - 48).toInt64, .long 0, .long 9]) (rest := []) (by decide +kernel) (by decide +kernel) (by decide) (by decide +kernel) rfl rfl (by decide +kernel) (Nat.le_of_ble_eq_true rfl)).trans ?_
    rfl
theorem s168_87 {L : Nat} {mi : Nat → Nat → Int32} {ml : Nat → Nat → Int64} {d : Nat} {Q : Option Value → xM → Prop} {x1 x2 x3 x4 x5 y : Int32} (h1 : ¬ (y = 0) → xin (x3 + x4) 24 = true) : X 168 87 [.ref 68, .int x1, .int x2, .int x3, .int x4, .int x5] [.int y] (SH L, mi, ml, MR) d Q =
    if (y = 0) then (Q (some (.int 0)) (SH L, mi, ml, MR)) else (X 168 51 [.ref 68, .int x1, .int x2, .int x3, .int (x4 + 1), .int x5] [] (SH L, (xw (xw mi 82 (x3 + x4).toNatClampNeg x5) 68 19 (((xw mi 82 (x3 + x4).toNatClampNeg x5) 68 19) + 1)), ml, MR) d Q) := by
  refine (R_if_ne (off := 5) (t := 92) (by decide +kernel) (by decide +kernel)).trans (ite_congr rfl (fun c0 => ?_) (fun c0 => ?_))
  · refine (R_iconst (n := 0) (v := 0) (by decide +kernel) (by decide +kernel)).trans ?_
    exact R_zreturn (by decide +kernel) (by decide +kernel) (by decide)
  · refine (R_pure0 (ins := .aload_n 0) (len := 1) (loc' := [.ref 68, .int x1, .int x2, .int x3, .int x4, .int x5]) (st' := [.ref 68]) (by decide +kernel) (fun _ => rfl)).trans ?_
    refine (R_gr (i := 54) (ci := 10) (k := 21) (n := 33) (b := 82) (by decide +kernel) (by decide +kernel) (by decide) rfl (SH_ref (by decide +kernel))).trans ?_
    refine (R_pure0 (ins := .iload_n 3) (len := 1) (loc' := [.ref 68, .int x1, .int x2, .int x3, .int x4, .int x5]) (st' := [.int x3, .ref 82]) (by decide +kernel) (fun _ => rfl)).trans ?_
    refine (R_pure0 (ins := .iload 4) (len := 2) (loc' := [.ref 68, .int x1, .int x2, .int x3, .int x4, .int x5]) (st' := [.int x4, .int x3, .ref 82]) (by decide +kernel) (fun _ => rfl)).trans ?_
    refine (R_pure0 (ins := .iadd) (len := 1) (loc' := [.ref 68, .int x1, .int x2, .int x3, .int x4, .int x5]) (st' := [.int (x3 + x4), .ref 82]) (by decide +kernel) (fun _ => rfl)).trans ?_
    refine (R_pure0 (ins := .iload 5) (len := 2) (loc' := [.ref 68, .int x1, .int x2, .int x3, .int x4, .int x5]) (st' := [.int x5, .int (x3 + x4), .ref 82]) (by decide +kernel) (fun _ => rfl)).trans ?_
    refine (R_iastore (n := 24) (by decide +kernel) rfl (h1 c0)).trans ?_
    refine (R_pure0 (ins := .aload_n 0) (len := 1) (loc' := [.ref 68, .int x1, .int x2, .int x3, .int x4, .int x5]) (st' := [.ref 68]) (by decide +kernel) (fun _ => rfl)).trans ?_
    refine (R_pure0 (ins := .dup) (len := 1) (loc' := [.ref 68, .int x1, .int x2, .int x3, .int x4, .int x5]) (st' := [.ref 68, .ref 68]) (by decide +kernel) (fun _ => rfl)).trans ?_
    refine (R_gi (i := 107) (ci := 10) (k := 19) (n := 33) (by decide +kernel) (by decide +kernel) (by decide) rfl).trans ?_
    refine (R_iconst (n := 1) (v := 1) (by decide +kernel) (by decide +kernel)).trans ?_
    refine (R_pure0 (ins := .iadd) (len := 1) (loc' := [.ref 68, .int x1, .int x2, .int x3, .int x4, .int x5]) (st' := [.int (((xw mi 82 (x3 + x4).toNatClampNeg x5) 68 19) + 1), .ref 68]) (by decide +kernel) (fun _ => rfl)).trans ?_
    refine (R_pi (i := 107) (ci := 10) (k := 19) (n := 33) (by decide +kernel) (by decide +kernel) (by decide) rfl).trans ?_
    refine (R_iinc (k := 4) (n := 1) (x := x4) (v := (x4 + 1)) (loc' := [.ref 68, .int x1, .int x2, .int x3, .int (x4 + 1), .int x5]) (by decide +kernel) rfl rfl rfl).trans ?_
    refine (R_goto (off := (-65)) (t := 51) (by decide +kernel) (by decide +kernel)).trans ?_
    rfl
theorem s168_51v2 {L : Nat} {mi : Nat → Nat → Int32} {ml : Nat → Nat → Int64} {d : Nat} {Q : Option Value → xM → Prop} {x1 x2 x3 x4 x5 : Int32} : X 168 51 [.ref 68, .int x1, .int x2, .int x3, .int x4, .int x5] [] (SH L, mi, ml, MR) (d + 1) Q =
    if (x4 < 4) then (Xm 165 [.ref 68, .int x1] (SH L, mi, ml, MR) d (fun v μ' => X 168 62 [.ref 68, .int x1, .int x2, .int x3, .int x4, .int x5] (v.toList ++ []) μ' (d + 1) Q)) else (Q (some (.int 1)) (SH L, (xw mi 68 20 ((mi 68 20) + 1)), ml, MR)) := by
  refine (R_pure0 (ins := .iload 4) (len := 2) (loc' := [.ref 68, .int x1, .int x2, .int x3, .int x4, .int x5]) (st' := [.int x4]) (by decide +kernel) (fun _ => rfl)).trans ?_
  refine (R_iconst (n := 4) (v := 4) (by decide +kernel) (by decide +kernel)).trans ?_
  refine (R_icmp_ge (off := 65) (t := 119) (by decide +kernel) (by decide +kernel)).trans (ite_congr rfl (fun c0 => ?_) (fun c0 => ?_))
  · refine (R_pure0 (ins := .aload_n 0) (len := 1) (loc' := [.ref 68, .int x1, .int x2, .int x3, .int x4, .int x5]) (st' := [.ref 68]) (by decide +kernel) (fun _ => rfl)).trans ?_
    refine (R_pure0 (ins := .iload_n 1) (len := 1) (loc' := [.ref 68, .int x1, .int x2, .int x3, .int x4, .int x5]) (st' := [.int x1, .ref 68]) (by decide +kernel) (fun _ => rfl)).trans ?_
    refine (R_virt (i := 110) (f := 165) (kd := 0) (na := 1) (ml := 2) (ci := 10) (n := 33) (b := 68) (As := [.int x1]) (rest := []) (by decide +kernel) (by decide +kernel) (by decide) (by decide +kernel) rfl (by decide +kernel) rfl rfl (by decide +kernel) (Nat.le_of_ble_eq_true rfl)).trans ?_
    rfl
  · refine (R_pure0 (ins := .aload_n 0) (len := 1) (loc' := [.ref 68, .int x1, .int x2, .int x3, .int x4, .int x5]) (st' := [.ref 68]) (by decide +kernel) (fun _ => rfl)).trans ?_
    refine (R_pure0 (ins := .dup) (len := 1) (loc' := [.ref 68, .int x1, .int x2, .int x3, .int x4, .int x5]) (st' := [.ref 68, .ref 68]) (by decide +kernel) (fun _ => rfl)).trans ?_
    refine (R_gi (i := 116) (ci := 10) (k := 20) (n := 33) (by decide +kernel) (by decide +kernel) (by decide) rfl).trans ?_
    refine (R_iconst (n := 1) (v := 1) (by decide +kernel) (by decide +kernel)).trans ?_
    refine (R_pure0 (ins := .iadd) (len := 1) (loc' := [.ref 68, .int x1, .int x2, .int x3, .int x4, .int x5]) (st' := [.int ((mi 68 20) + 1), .ref 68]) (by decide +kernel) (fun _ => rfl)).trans ?_
    refine (R_pi (i := 116) (ci := 10) (k := 20) (n := 33) (by decide +kernel) (by decide +kernel) (by decide) rfl).trans ?_
    refine (R_iconst (n := 1) (v := 1) (by decide +kernel) (by decide +kernel)).trans ?_
    exact R_zreturn (by decide +kernel) (by decide +kernel) (by decide)
theorem s168_62v2 {L : Nat} {mi : Nat → Nat → Int32} {ml : Nat → Nat → Int64} {d : Nat} {Q : Option Value → xM → Prop} {x1 x2 x3 x4 x5 y : Int32} : X 168 62 [.ref 68, .int x1, .int x2, .int x3, .int x4, .int x5] [.int y] (SH L, mi, ml, MR) (d + 1) Q =
    if (x4 = 2) then (Xm 149 [.long (y - 48).toInt64, .long 1, .long 9] (SH L, mi, ml, MR) d (fun v μ' => X 168 87 [.ref 68, .int x1, .int x2, .int x3, .int x4, .int (y - 48)] (v.toList ++ []) μ' (d + 1) Q)) else (Xm 149 [.long (y - 48).toInt64, .long 0, .long 9] (SH L, mi, ml, MR) d (fun v μ' => X 168 87 [.ref 68, .int x1, .int x2, .int x3, .int x4, .int (y - 48)] (v.toList ++ []) μ' (d + 1) Q)) := by
  refine (R_bipush (n := 48) (v := 48) (by decide +kernel) (by decide +kernel)).trans ?_
  refine (R_pure0 (ins := .isub) (len := 1) (loc' := [.ref 68, .int x1, .int x2, .int x3, .int x4, .int x5]) (st' := [.int (y - 48)]) (by decide +kernel) (fun _ => rfl)).trans ?_
  refine (R_pure0 (ins := .istore 5) (len := 2) (loc' := [.ref 68, .int x1, .int x2, .int x3, .int x4, .int (y - 48)]) (st' := []) (by decide +kernel) (fun _ => rfl)).trans ?_
  refine (R_pure0 (ins := .iload 5) (len := 2) (loc' := [.ref 68, .int x1, .int x2, .int x3, .int x4, .int (y - 48)]) (st' := [.int (y - 48)]) (by decide +kernel) (fun _ => rfl)).trans ?_
  refine (R_pure0 (ins := .i2l) (len := 1) (loc' := [.ref 68, .int x1, .int x2, .int x3, .int x4, .int (y - 48)]) (st' := [.long (y - 48).toInt64]) (by decide +kernel) (fun _ => rfl)).trans ?_
  refine (R_pure0 (ins := .iload 4) (len := 2) (loc' := [.ref 68, .int x1, .int x2, .int x3, .int x4, .int (y - 48)]) (st' := [.int x4, .long (y - 48).toInt64]) (by decide +kernel) (fun _ => rfl)).trans ?_
  refine (R_iconst (n := 2) (v := 2) (by decide +kernel) (by decide +kernel)).trans ?_
  refine (R_icmp_ne (off := 7) (t := 80) (by decide +kernel) (by decide +kernel)).trans (ite_congr rfl (fun c0 => ?_) (fun c0 => ?_))
  · refine (R_lconst (n := 1) (v := 1) (by decide +kernel) (by decide +kernel)).trans ?_
    refine (R_goto (off := 4) (t := 81) (by decide +kernel) (by decide +kernel)).trans ?_
    refine (R_ldc2 (i := 119) (v := 9) (by decide +kernel) (by decide +kernel)).trans ?_
    refine (R_static (i := 87) (f := 149) (kd := 2) (na := 3) (ml := 6) (As := [.long (y - 48).toInt64, .long 1, .long 9]) (rest := []) (by decide +kernel) (by decide +kernel) (by decide) (by decide +kernel) rfl rfl (by decide +kernel) (Nat.le_of_ble_eq_true rfl)).trans ?_
    rfl
  · refine (R_lconst (n := 0) (v := 0) (by decide +kernel) (by decide +kernel)).trans ?_
    refine (R_ldc2 (i := 119) (v := 9) (by decide +kernel) (by decide +kernel)).trans ?_
    refine (R_static (i := 87) (f := 149) (kd := 2) (na := 3) (ml := 6) (As := [.long (y - 48).toInt64, .long 0, .long 9]) (rest := []) (by decide +kernel) (by decide +kernel) (by decide) (by decide +kernel) rfl rfl (by decide +kernel) (Nat.le_of_ble_eq_true rfl)).trans ?_
    rfl
theorem s169 {L : Nat} {mi : Nat → Nat → Int32} {ml : Nat → Nat → Int64} {d : Nat} {Q : Option Value → xM → Prop} {x1 : Int32} : Xm 169 [.ref 68, .int x1] (SH L, mi, ml, MR) d Q =
    X 169 12 [.ref 68, .int x1, .int 1] [] (SH L, (xw (xw mi 68 19 0) 68 20 0), ml, MR) d Q := by
  rw [Xm_ent (n := 3) (loc := [.ref 68, .int x1, xmk]) (by decide +kernel) rfl]
  refine (R_pure0 (ins := .aload_n 0) (len := 1) (loc' := [.ref 68, .int x1, xmk]) (st' := [.ref 68]) (by decide +kernel) (fun _ => rfl)).trans ?_
  refine (R_iconst (n := 0) (v := 0) (by decide +kernel) (by decide +kernel)).trans ?_
  refine (R_pi (i := 107) (ci := 10) (k := 19) (n := 33) (by decide +kernel) (by decide +kernel) (by decide) rfl).trans ?_
  refine (R_pure0 (ins := .aload_n 0) (len := 1) (loc' := [.ref 68, .int x1, xmk]) (st' := [.ref 68]) (by decide +kernel) (fun _ => rfl)).trans ?_
  refine (R_iconst (n := 0) (v := 0) (by decide +kernel) (by decide +kernel)).trans ?_
  refine (R_pi (i := 116) (ci := 10) (k := 20) (n := 33) (by decide +kernel) (by decide +kernel) (by decide) rfl).trans ?_
  refine (R_iconst (n := 1) (v := 1) (by decide +kernel) (by decide +kernel)).trans ?_
  refine (R_pure0 (ins := .istore_n 2) (len := 1) (loc' := [.ref 68, .int x1, .int 1]) (st' := []) (by decide +kernel) (fun _ => rfl)).trans ?_
  rfl
theorem s169_12 {L : Nat} {mi : Nat → Nat → Int32} {ml : Nat → Nat → Int64} {d : Nat} {Q : Option Value → xM → Prop} {x1 x2 : Int32} : X 169 12 [.ref 68, .int x1, .int x2] [] (SH L, mi, ml, MR) (d + 1) Q =
    if (x2 = 0) then (Q (some (.int (mi 68 19))) (SH L, mi, ml, MR)) else (Xm 166 [.ref 68, .int x1] (SH L, mi, ml, MR) d (fun v μ' => X 169 21 [.ref 68, .int x1, .int x2] (v.toList ++ []) μ' (d + 1) Q)) := by
  refine (R_pure0 (ins := .iload_n 2) (len := 1) (loc' := [.ref 68, .int x1, .int x2]) (st' := [.int x2]) (by decide +kernel) (fun _ => rfl)).trans ?_
  refine (R_if_eq (off := 40) (t := 53) (by decide +kernel) (by decide +kernel)).trans (ite_congr rfl (fun c0 => ?_) (fun c0 => ?_))
  · refine (R_pure0 (ins := .aload_n 0) (len := 1) (loc' := [.ref 68, .int x1, .int x2]) (st' := [.ref 68]) (by decide +kernel) (fun _ => rfl)).trans ?_
    refine (R_gi (i := 107) (ci := 10) (k := 19) (n := 33) (by decide +kernel) (by decide +kernel) (by decide) rfl).trans ?_
    exact R_ireturn (by decide +kernel) (by decide +kernel)
  · refine (R_pure0 (ins := .aload_n 0) (len := 1) (loc' := [.ref 68, .int x1, .int x2]) (st' := [.ref 68]) (by decide +kernel) (fun _ => rfl)).trans ?_
    refine (R_pure0 (ins := .iload_n 1) (len := 1) (loc' := [.ref 68, .int x1, .int x2]) (st' := [.int x1, .ref 68]) (by decide +kernel) (fun _ => rfl)).trans ?_
    refine (R_virt (i := 121) (f := 166) (kd := 0) (na := 1) (ml := 2) (ci := 10) (n := 33) (b := 68) (As := [.int x1]) (rest := []) (by decide +kernel) (by decide +kernel) (by decide) (by decide +kernel) rfl (by decide +kernel) rfl rfl (by decide +kernel) (Nat.le_of_ble_eq_true rfl)).trans ?_
    rfl
theorem s169_21 {L : Nat} {mi : Nat → Nat → Int32} {ml : Nat → Nat → Int64} {d : Nat} {Q : Option Value → xM → Prop} {x1 x2 : Int32} (h1 : xin x1 4 = true) : X 169 21 [.ref 68, .int x1, .int x2] [] (SH L, mi, ml, MR) (d + 1) Q =
    if ((mi 68 19) = (mi 71 x1.toNatClampNeg)) then (if ((0 : Int32) < (mi 68 20)) then (Q (some (.int (-9))) (SH L, mi, ml, MR)) else (Xm 168 [.ref 68, .int x1] (SH L, mi, ml, MR) d (fun v μ' => X 169 49 [.ref 68, .int x1, .int x2] (v.toList ++ []) μ' (d + 1) Q))) else (Xm 168 [.ref 68, .int x1] (SH L, mi, ml, MR) d (fun v μ' => X 169 49 [.ref 68, .int x1, .int x2] (v.toList ++ []) μ' (d + 1) Q)) := by
  refine (R_pure0 (ins := .aload_n 0) (len := 1) (loc' := [.ref 68, .int x1, .int x2]) (st' := [.ref 68]) (by decide +kernel) (fun _ => rfl)).trans ?_
  refine (R_gi (i := 107) (ci := 10) (k := 19) (n := 33) (by decide +kernel) (by decide +kernel) (by decide) rfl).trans ?_
  refine (R_pure0 (ins := .aload_n 0) (len := 1) (loc' := [.ref 68, .int x1, .int x2]) (st' := [.ref 68, .int (mi 68 19)]) (by decide +kernel) (fun _ => rfl)).trans ?_
  refine (R_gr (i := 16) (ci := 10) (k := 2) (n := 33) (b := 71) (by decide +kernel) (by decide +kernel) (by decide) rfl (SH_ref (by decide +kernel))).trans ?_
  refine (R_pure0 (ins := .iload_n 1) (len := 1) (loc' := [.ref 68, .int x1, .int x2]) (st' := [.int x1, .ref 71, .int (mi 68 19)]) (by decide +kernel) (fun _ => rfl)).trans ?_
  refine (R_iaload (kd := 100) (n := 4) (by decide +kernel) rfl (by decide) (h1)).trans ?_
  refine (R_icmp_ne (off := 13) (t := 44) (by decide +kernel) (by decide +kernel)).trans (ite_congr rfl (fun c0 => ?_) (fun c0 => ?_))
  · refine (R_pure0 (ins := .aload_n 0) (len := 1) (loc' := [.ref 68, .int x1, .int x2]) (st' := [.ref 68]) (by decide +kernel) (fun _ => rfl)).trans ?_
    refine (R_gi (i := 116) (ci := 10) (k := 20) (n := 33) (by decide +kernel) (by decide +kernel) (by decide) rfl).trans ?_
    refine (R_if_le (off := 6) (t := 44) (by decide +kernel) (by decide +kernel)).trans (ite_congr rfl (fun c1 => ?_) (fun c1 => ?_))
    · refine (R_bipush (n := (-9)) (v := (-9)) (by decide +kernel) (by decide +kernel)).trans ?_
      exact R_ireturn (by decide +kernel) (by decide +kernel)
    · refine (R_pure0 (ins := .aload_n 0) (len := 1) (loc' := [.ref 68, .int x1, .int x2]) (st' := [.ref 68]) (by decide +kernel) (fun _ => rfl)).trans ?_
      refine (R_pure0 (ins := .iload_n 1) (len := 1) (loc' := [.ref 68, .int x1, .int x2]) (st' := [.int x1, .ref 68]) (by decide +kernel) (fun _ => rfl)).trans ?_
      refine (R_virt (i := 125) (f := 168) (kd := 0) (na := 1) (ml := 6) (ci := 10) (n := 33) (b := 68) (As := [.int x1]) (rest := []) (by decide +kernel) (by decide +kernel) (by decide) (by decide +kernel) rfl (by decide +kernel) rfl rfl (by decide +kernel) (Nat.le_of_ble_eq_true rfl)).trans ?_
      rfl
  · refine (R_pure0 (ins := .aload_n 0) (len := 1) (loc' := [.ref 68, .int x1, .int x2]) (st' := [.ref 68]) (by decide +kernel) (fun _ => rfl)).trans ?_
    refine (R_pure0 (ins := .iload_n 1) (len := 1) (loc' := [.ref 68, .int x1, .int x2]) (st' := [.int x1, .ref 68]) (by decide +kernel) (fun _ => rfl)).trans ?_
    refine (R_virt (i := 125) (f := 168) (kd := 0) (na := 1) (ml := 6) (ci := 10) (n := 33) (b := 68) (As := [.int x1]) (rest := []) (by decide +kernel) (by decide +kernel) (by decide) (by decide +kernel) rfl (by decide +kernel) rfl rfl (by decide +kernel) (Nat.le_of_ble_eq_true rfl)).trans ?_
    rfl
theorem s169_49 {L : Nat} {mi : Nat → Nat → Int32} {ml : Nat → Nat → Int64} {d : Nat} {Q : Option Value → xM → Prop} {x1 x2 y : Int32} : X 169 49 [.ref 68, .int x1, .int x2] [.int y] (SH L, mi, ml, MR) d Q =
    X 169 12 [.ref 68, .int x1, .int y] [] (SH L, mi, ml, MR) d Q := by
  refine (R_pure0 (ins := .istore_n 2) (len := 1) (loc' := [.ref 68, .int x1, .int y]) (st' := []) (by decide +kernel) (fun _ => rfl)).trans ?_
  refine (R_goto (off := (-38)) (t := 12) (by decide +kernel) (by decide +kernel)).trans ?_
  rfl
theorem s170 {L : Nat} {mi : Nat → Nat → Int32} {ml : Nat → Nat → Int64} {d : Nat} {Q : Option Value → xM → Prop} {x1 : Int32} : Xm 170 [.ref 68, .int x1] (SH L, mi, ml, MR) (d + 1) Q =
    Xm 156 [.int x1] (SH L, mi, ml, MR) d (fun v μ' => X 170 4 [.ref 68, .int x1] (v.toList ++ []) μ' (d + 1) Q) := by
  rw [Xm_ent (n := 2) (loc := [.ref 68, .int x1]) (by decide +kernel) rfl]
  refine (R_pure0 (ins := .iload_n 1) (len := 1) (loc' := [.ref 68, .int x1]) (st' := [.int x1]) (by decide +kernel) (fun _ => rfl)).trans ?_
  refine (R_static (i := 104) (f := 156) (kd := 2) (na := 1) (ml := 1) (As := [.int x1]) (rest := []) (by decide +kernel) (by decide +kernel) (by decide) (by decide +kernel) rfl rfl (by decide +kernel) (Nat.le_of_ble_eq_true rfl)).trans ?_
  rfl
theorem s170_4 {L : Nat} {mi : Nat → Nat → Int32} {ml : Nat → Nat → Int64} {d : Nat} {Q : Option Value → xM → Prop} {x1 y : Int32} (h1 : ¬ (y = 0) → xin x1 4 = true) : X 170 4 [.ref 68, .int x1] [.int y] (SH L, mi, ml, MR) (d + 1) Q =
    if (y = 0) then (Q (some (.int (-1))) (SH L, mi, ml, MR)) else (if ((mi 71 x1.toNatClampNeg) < 0) then (Xm 152 [.ref 68, .int 1] (SH L, mi, ml, MR) d (fun v μ' => X 170 23 [.ref 68, .int x1] (v.toList ++ []) μ' (d + 1) Q)) else (Xm 169 [.ref 68, .int x1] (SH L, mi, ml, MR) d (fun v μ' => X 170 31 [.ref 68, .int x1] (v.toList ++ []) μ' (d + 1) Q))) := by
  refine (R_if_ne (off := 5) (t := 9) (by decide +kernel) (by decide +kernel)).trans (ite_congr rfl (fun c0 => ?_) (fun c0 => ?_))
  · refine (R_iconst (n := (-1)) (v := (-1)) (by decide +kernel) (by decide +kernel)).trans ?_
    exact R_ireturn (by decide +kernel) (by decide +kernel)
  · refine (R_pure0 (ins := .aload_n 0) (len := 1) (loc' := [.ref 68, .int x1]) (st' := [.ref 68]) (by decide +kernel) (fun _ => rfl)).trans ?_
    refine (R_gr (i := 16) (ci := 10) (k := 2) (n := 33) (b := 71) (by decide +kernel) (by decide +kernel) (by decide) rfl (SH_ref (by decide +kernel))).trans ?_
    refine (R_pure0 (ins := .iload_n 1) (len := 1) (loc' := [.ref 68, .int x1]) (st' := [.int x1, .ref 71]) (by decide +kernel) (fun _ => rfl)).trans ?_
    refine (R_iaload (kd := 100) (n := 4) (by decide +kernel) rfl (by decide) (h1 c0)).trans ?_
    refine (R_if_ge (off := 11) (t := 26) (by decide +kernel) (by decide +kernel)).trans (ite_congr rfl (fun c1 => ?_) (fun c1 => ?_))
    · refine (R_pure0 (ins := .aload_n 0) (len := 1) (loc' := [.ref 68, .int x1]) (st' := [.ref 68]) (by decide +kernel) (fun _ => rfl)).trans ?_
      refine (R_iconst (n := 1) (v := 1) (by decide +kernel) (by decide +kernel)).trans ?_
      refine (R_virt (i := 97) (f := 152) (kd := 0) (na := 1) (ml := 2) (ci := 10) (n := 33) (b := 68) (As := [.int 1]) (rest := []) (by decide +kernel) (by decide +kernel) (by decide) (by decide +kernel) rfl (by decide +kernel) rfl rfl (by decide +kernel) (Nat.le_of_ble_eq_true rfl)).trans ?_
      rfl
    · refine (R_pure0 (ins := .aload_n 0) (len := 1) (loc' := [.ref 68, .int x1]) (st' := [.ref 68]) (by decide +kernel) (fun _ => rfl)).trans ?_
      refine (R_pure0 (ins := .iload_n 1) (len := 1) (loc' := [.ref 68, .int x1]) (st' := [.int x1, .ref 68]) (by decide +kernel) (fun _ => rfl)).trans ?_
      refine (R_virt (i := 128) (f := 169) (kd := 0) (na := 1) (ml := 3) (ci := 10) (n := 33) (b := 68) (As := [.int x1]) (rest := []) (by decide +kernel) (by decide +kernel) (by decide) (by decide +kernel) rfl (by decide +kernel) rfl rfl (by decide +kernel) (Nat.le_of_ble_eq_true rfl)).trans ?_
      rfl
theorem s170_23 {L : Nat} {mi : Nat → Nat → Int32} {ml : Nat → Nat → Int64} {d : Nat} {Q : Option Value → xM → Prop} {x1 y : Int32} : X 170 23 [.ref 68, .int x1] [.int y] (SH L, mi, ml, MR) d Q =
    Q (some (.int y)) (SH L, mi, ml, MR) := by
  refine (R_goto (off := 8) (t := 31) (by decide +kernel) (by decide +kernel)).trans ?_
  exact R_ireturn (by decide +kernel) (by decide +kernel)
theorem s170_31 {L : Nat} {mi : Nat → Nat → Int32} {ml : Nat → Nat → Int64} {d : Nat} {Q : Option Value → xM → Prop} {x1 y : Int32} : X 170 31 [.ref 68, .int x1] [.int y] (SH L, mi, ml, MR) d Q =
    Q (some (.int y)) (SH L, mi, ml, MR) := by
  exact R_ireturn (by decide +kernel) (by decide +kernel)
theorem s171 {L : Nat} {mi : Nat → Nat → Int32} {ml : Nat → Nat → Int64} {d : Nat} {Q : Option Value → xM → Prop} {x1 : Int32} : Xm 171 [.ref 68, .int x1] (SH L, mi, ml, MR) (d + 1) Q =
    Xm 156 [.int x1] (SH L, mi, ml, MR) d (fun v μ' => X 171 4 [.ref 68, .int x1, xmk] (v.toList ++ []) μ' (d + 1) Q) := by
  rw [Xm_ent (n := 3) (loc := [.ref 68, .int x1, xmk]) (by decide +kernel) rfl]
  refine (R_pure0 (ins := .iload_n 1) (len := 1) (loc' := [.ref 68, .int x1, xmk]) (st' := [.int x1]) (by decide +kernel) (fun _ => rfl)).trans ?_
  refine (R_static (i := 104) (f := 156) (kd := 2) (na := 1) (ml := 1) (As := [.int x1]) (rest := []) (by decide +kernel) (by decide +kernel) (by decide) (by decide +kernel) rfl rfl (by decide +kernel) (Nat.le_of_ble_eq_true rfl)).trans ?_
  rfl
theorem s171_4 {L : Nat} {mi : Nat → Nat → Int32} {ml : Nat → Nat → Int64} {d : Nat} {Q : Option Value → xM → Prop} {x1 y : Int32} (h1 : ¬ (y = 0) → xin x1 4 = true) : X 171 4 [.ref 68, .int x1, xmk] [.int y] (SH L, mi, ml, MR) (d + 1) Q =
    if (y = 0) then (Q (some (.int (-1))) (SH L, mi, ml, MR)) else (if ((mi 71 x1.toNatClampNeg) < 0) then (Xm 152 [.ref 68, .int 1] (SH L, mi, ml, MR) d (fun v μ' => X 171 23 [.ref 68, .int x1, xmk] (v.toList ++ []) μ' (d + 1) Q)) else (Xm 169 [.ref 68, .int x1] (SH L, mi, ml, MR) d (fun v μ' => X 171 29 [.ref 68, .int x1, xmk] (v.toList ++ []) μ' (d + 1) Q))) := by
  refine (R_if_ne (off := 5) (t := 9) (by decide +kernel) (by decide +kernel)).trans (ite_congr rfl (fun c0 => ?_) (fun c0 => ?_))
  · refine (R_iconst (n := (-1)) (v := (-1)) (by decide +kernel) (by decide +kernel)).trans ?_
    exact R_ireturn (by decide +kernel) (by decide +kernel)
  · refine (R_pure0 (ins := .aload_n 0) (len := 1) (loc' := [.ref 68, .int x1, xmk]) (st' := [.ref 68]) (by decide +kernel) (fun _ => rfl)).trans ?_
    refine (R_gr (i := 16) (ci := 10) (k := 2) (n := 33) (b := 71) (by decide +kernel) (by decide +kernel) (by decide) rfl (SH_ref (by decide +kernel))).trans ?_
    refine (R_pure0 (ins := .iload_n 1) (len := 1) (loc' := [.ref 68, .int x1, xmk]) (st' := [.int x1, .ref 71]) (by decide +kernel) (fun _ => rfl)).trans ?_
    refine (R_iaload (kd := 100) (n := 4) (by decide +kernel) rfl (by decide) (h1 c0)).trans ?_
    refine (R_if_ge (off := 9) (t := 24) (by decide +kernel) (by decide +kernel)).trans (ite_congr rfl (fun c1 => ?_) (fun c1 => ?_))
    · refine (R_pure0 (ins := .aload_n 0) (len := 1) (loc' := [.ref 68, .int x1, xmk]) (st' := [.ref 68]) (by decide +kernel) (fun _ => rfl)).trans ?_
      refine (R_iconst (n := 1) (v := 1) (by decide +kernel) (by decide +kernel)).trans ?_
      refine (R_virt (i := 97) (f := 152) (kd := 0) (na := 1) (ml := 2) (ci := 10) (n := 33) (b := 68) (As := [.int 1]) (rest := []) (by decide +kernel) (by decide +kernel) (by decide) (by decide +kernel) rfl (by decide +kernel) rfl rfl (by decide +kernel) (Nat.le_of_ble_eq_true rfl)).trans ?_
      rfl
    · refine (R_pure0 (ins := .aload_n 0) (len := 1) (loc' := [.ref 68, .int x1, xmk]) (st' := [.ref 68]) (by decide +kernel) (fun _ => rfl)).trans ?_
      refine (R_pure0 (ins := .iload_n 1) (len := 1) (loc' := [.ref 68, .int x1, xmk]) (st' := [.int x1, .ref 68]) (by decide +kernel) (fun _ => rfl)).trans ?_
      refine (R_virt (i := 128) (f := 169) (kd := 0) (na := 1) (ml := 3) (ci := 10) (n := 33) (b := 68) (As := [.int x1]) (rest := []) (by decide +kernel) (by decide +kernel) (by decide) (by decide +kernel) rfl (by decide +kernel) rfl rfl (by decide +kernel) (Nat.le_of_ble_eq_true rfl)).trans ?_
      rfl
theorem s171_23 {L : Nat} {mi : Nat → Nat → Int32} {ml : Nat → Nat → Int64} {d : Nat} {Q : Option Value → xM → Prop} {x1 y : Int32} : X 171 23 [.ref 68, .int x1, xmk] [.int y] (SH L, mi, ml, MR) d Q =
    Q (some (.int y)) (SH L, mi, ml, MR) := by
  exact R_ireturn (by decide +kernel) (by decide +kernel)
theorem s171_29 {L : Nat} {mi : Nat → Nat → Int32} {ml : Nat → Nat → Int64} {d : Nat} {Q : Option Value → xM → Prop} {x1 y : Int32} : X 171 29 [.ref 68, .int x1, xmk] [.int y] (SH L, mi, ml, MR) d Q =
    if (y = (-9)) then (X 171 47 [.ref 68, .int x1, .int 0] [] (SH L, (xw mi 68 4 (mi 68 20)), ml, MR) d Q) else (Q (some (.int (-4))) (SH L, mi, ml, MR)) := by
  refine (R_bipush (n := (-9)) (v := (-9)) (by decide +kernel) (by decide +kernel)).trans ?_
  refine (R_icmp_eq (off := 6) (t := 37) (by decide +kernel) (by decide +kernel)).trans (ite_congr rfl (fun c0 => ?_) (fun c0 => ?_))
  · refine (R_pure0 (ins := .aload_n 0) (len := 1) (loc' := [.ref 68, .int x1, xmk]) (st' := [.ref 68]) (by decide +kernel) (fun _ => rfl)).trans ?_
    refine (R_pure0 (ins := .aload_n 0) (len := 1) (loc' := [.ref 68, .int x1, xmk]) (st' := [.ref 68, .ref 68]) (by decide +kernel) (fun _ => rfl)).trans ?_
    refine (R_gi (i := 116) (ci := 10) (k := 20) (n := 33) (by decide +kernel) (by decide +kernel) (by decide) rfl).trans ?_
    refine (R_pi (i := 131) (ci := 10) (k := 4) (n := 33) (by decide +kernel) (by decide +kernel) (by decide) rfl).trans ?_
    refine (R_iconst (n := 0) (v := 0) (by decide +kernel) (by decide +kernel)).trans ?_
    refine (R_pure0 (ins := .istore_n 2) (len := 1) (loc' := [.ref 68, .int x1, .int 0]) (st' := []) (by decide +kernel) (fun _ => rfl)).trans ?_
    rfl
  · refine (R_bipush (n := (-4)) (v := (-4)) (by decide +kernel) (by decide +kernel)).trans ?_
    exact R_ireturn (by decide +kernel) (by decide +kernel)
theorem s171_47 {L : Nat} {mi : Nat → Nat → Int32} {ml : Nat → Nat → Int64} {d : Nat} {Q : Option Value → xM → Prop} {x1 x2 : Int32} (h1 : (x2 < (mi 68 4)) → xin (4 * x2) 24 = true) (h2 : (x2 < (mi 68 4)) → xin x2 6 = true) (h3 : (x2 < (mi 68 4)) → xin ((4 * x2) + 1) 24 = true) (h4 : (x2 < (mi 68 4)) → xin x2 6 = true) (h5 : (x2 < (mi 68 4)) → xin ((4 * x2) + 2) 24 = true) (h6 : (x2 < (mi 68 4)) → xin x2 6 = true) (h7 : (x2 < (mi 68 4)) → xin ((4 * x2) + 3) 24 = true) (h8 : (x2 < (mi 68 4)) → xin x2 6 = true) : X 171 47 [.ref 68, .int x1, .int x2] [] (SH L, mi, ml, MR) d Q =
    if (x2 < (mi 68 4)) then (X 171 47 [.ref 68, .int x1, .int (x2 + 1)] [] (SH L, (xw (xw (xw (xw mi 73 x2.toNatClampNeg (mi 82 (4 * x2).toNatClampNeg)) 74 x2.toNatClampNeg ((xw mi 73 x2.toNatClampNeg (mi 82 (4 * x2).toNatClampNeg)) 82 ((4 * x2) + 1).toNatClampNeg)) 75 x2.toNatClampNeg ((xw (xw mi 73 x2.toNatClampNeg (mi 82 (4 * x2).toNatClampNeg)) 74 x2.toNatClampNeg ((xw mi 73 x2.toNatClampNeg (mi 82 (4 * x2).toNatClampNeg)) 82 ((4 * x2) + 1).toNatClampNeg)) 82 ((4 * x2) + 2).toNatClampNeg)) 76 x2.toNatClampNeg ((xw (xw (xw mi 73 x2.toNatClampNeg (mi 82 (4 * x2).toNatClampNeg)) 74 x2.toNatClampNeg ((xw mi 73 x2.toNatClampNeg (mi 82 (4 * x2).toNatClampNeg)) 82 ((4 * x2) + 1).toNatClampNeg)) 75 x2.toNatClampNeg ((xw (xw mi 73 x2.toNatClampNeg (mi 82 (4 * x2).toNatClampNeg)) 74 x2.toNatClampNeg ((xw mi 73 x2.toNatClampNeg (mi 82 (4 * x2).toNatClampNeg)) 82 ((4 * x2) + 1).toNatClampNeg)) 82 ((4 * x2) + 2).toNatClampNeg)) 82 ((4 * x2) + 3).toNatClampNeg)), ml, MR) d Q) else (X 171 125 [.ref 68, .int x1, .int 0] [] (SH L, mi, ml, MR) d Q) := by
  refine (R_pure0 (ins := .iload_n 2) (len := 1) (loc' := [.ref 68, .int x1, .int x2]) (st' := [.int x2]) (by decide +kernel) (fun _ => rfl)).trans ?_
  refine (R_pure0 (ins := .aload_n 0) (len := 1) (loc' := [.ref 68, .int x1, .int x2]) (st' := [.ref 68, .int x2]) (by decide +kernel) (fun _ => rfl)).trans ?_
  refine (R_gi (i := 131) (ci := 10) (k := 4) (n := 33) (by decide +kernel) (by decide +kernel) (by decide) rfl).trans ?_
  refine (R_icmp_ge (off := 71) (t := 123) (by decide +kernel) (by decide +kernel)).trans (ite_congr rfl (fun c0 => ?_) (fun c0 => ?_))
  · refine (R_pure0 (ins := .aload_n 0) (len := 1) (loc' := [.ref 68, .int x1, .int x2]) (st' := [.ref 68]) (by decide +kernel) (fun _ => rfl)).trans ?_
    refine (R_gr (i := 22) (ci := 10) (k := 5) (n := 33) (b := 73) (by decide +kernel) (by decide +kernel) (by decide) rfl (SH_ref (by decide +kernel))).trans ?_
    refine (R_pure0 (ins := .iload_n 2) (len := 1) (loc' := [.ref 68, .int x1, .int x2]) (st' := [.int x2, .ref 73]) (by decide +kernel) (fun _ => rfl)).trans ?_
    refine (R_pure0 (ins := .aload_n 0) (len := 1) (loc' := [.ref 68, .int x1, .int x2]) (st' := [.ref 68, .int x2, .ref 73]) (by decide +kernel) (fun _ => rfl)).trans ?_
    refine (R_gr (i := 54) (ci := 10) (k := 21) (n := 33) (b := 82) (by decide +kernel) (by decide +kernel) (by decide) rfl (SH_ref (by decide +kernel))).trans ?_
    refine (R_iconst (n := 4) (v := 4) (by decide +kernel) (by decide +kernel)).trans ?_
    refine (R_pure0 (ins := .iload_n 2) (len := 1) (loc' := [.ref 68, .int x1, .int x2]) (st' := [.int x2, .int 4, .ref 82, .int x2, .ref 73]) (by decide +kernel) (fun _ => rfl)).trans ?_
    refine (R_pure0 (ins := .imul) (len := 1) (loc' := [.ref 68, .int x1, .int x2]) (st' := [.int (4 * x2), .ref 82, .int x2, .ref 73]) (by decide +kernel) (fun _ => rfl)).trans ?_
    refine (R_iaload (kd := 100) (n := 24) (by decide +kernel) rfl (by decide) (h1 c0)).trans ?_
    refine (R_iastore (n := 6) (by decide +kernel) rfl (h2 c0)).trans ?_
    refine (R_pure0 (ins := .aload_n 0) (len := 1) (loc' := [.ref 68, .int x1, .int x2]) (st' := [.ref 68]) (by decide +kernel) (fun _ => rfl)).trans ?_
    refine (R_gr (i := 25) (ci := 10) (k := 6) (n := 33) (b := 74) (by decide +kernel) (by decide +kernel) (by decide) rfl (SH_ref (by decide +kernel))).trans ?_
    refine (R_pure0 (ins := .iload_n 2) (len := 1) (loc' := [.ref 68, .int x1, .int x2]) (st' := [.int x2, .ref 74]) (by decide +kernel) (fun _ => rfl)).trans ?_
    refine (R_pure0 (ins := .aload_n 0) (len := 1) (loc' := [.ref 68, .int x1, .int x2]) (st' := [.ref 68, .int x2, .ref 74]) (by decide +kernel) (fun _ => rfl)).trans ?_
    refine (R_gr (i := 54) (ci := 10) (k := 21) (n := 33) (b := 82) (by decide +kernel) (by decide +kernel) (by decide) rfl (SH_ref (by decide +kernel))).trans ?_
    refine (R_iconst (n := 4) (v := 4) (by decide +kernel) (by decide +kernel)).trans ?_
    refine (R_pure0 (ins := .iload_n 2) (len := 1) (loc' := [.ref 68, .int x1, .int x2]) (st' := [.int x2, .int 4, .ref 82, .int x2, .ref 74]) (by decide +kernel) (fun _ => rfl)).trans ?_
    refine (R_pure0 (ins := .imul) (len := 1) (loc' := [.ref 68, .int x1, .int x2]) (st' := [.int (4 * x2), .ref 82, .int x2, .ref 74]) (by decide +kernel) (fun _ => rfl)).trans ?_
    refine (R_iconst (n := 1) (v := 1) (by decide +kernel) (by decide +kernel)).trans ?_
    refine (R_pure0 (ins := .iadd) (len := 1) (loc' := [.ref 68, .int x1, .int x2]) (st' := [.int ((4 * x2) + 1), .ref 82, .int x2, .ref 74]) (by decide +kernel) (fun _ => rfl)).trans ?_
    refine (R_iaload (kd := 100) (n := 24) (by decide +kernel) rfl (by decide) (h3 c0)).trans ?_
    refine (R_iastore (n := 6) (by decide +kernel) rfl (h4 c0)).trans ?_
    refine (R_pure0 (ins := .aload_n 0) (len := 1) (loc' := [.ref 68, .int x1, .int x2]) (st' := [.ref 68]) (by decide +kernel) (fun _ => rfl)).trans ?_
    refine (R_gr (i := 28) (ci := 10) (k := 7) (n := 33) (b := 75) (by decide +kernel) (by decide +kernel) (by decide) rfl (SH_ref (by decide +kernel))).trans ?_
    refine (R_pure0 (ins := .iload_n 2) (len := 1) (loc' := [.ref 68, .int x1, .int x2]) (st' := [.int x2, .ref 75]) (by decide +kernel) (fun _ => rfl)).trans ?_
    refine (R_pure0 (ins := .aload_n 0) (len := 1) (loc' := [.ref 68, .int x1, .int x2]) (st' := [.ref 68, .int x2, .ref 75]) (by decide +kernel) (fun _ => rfl)).trans ?_
    refine (R_gr (i := 54) (ci := 10) (k := 21) (n := 33) (b := 82) (by decide +kernel) (by decide +kernel) (by decide) rfl (SH_ref (by decide +kernel))).trans ?_
    refine (R_iconst (n := 4) (v := 4) (by decide +kernel) (by decide +kernel)).trans ?_
    refine (R_pure0 (ins := .iload_n 2) (len := 1) (loc' := [.ref 68, .int x1, .int x2]) (st' := [.int x2, .int 4, .ref 82, .int x2, .ref 75]) (by decide +kernel) (fun _ => rfl)).trans ?_
    refine (R_pure0 (ins := .imul) (len := 1) (loc' := [.ref 68, .int x1, .int x2]) (st' := [.int (4 * x2), .ref 82, .int x2, .ref 75]) (by decide +kernel) (fun _ => rfl)).trans ?_
    refine (R_iconst (n := 2) (v := 2) (by decide +kernel) (by decide +kernel)).trans ?_
    refine (R_pure0 (ins := .iadd) (len := 1) (loc' := [.ref 68, .int x1, .int x2]) (st' := [.int ((4 * x2) + 2), .ref 82, .int x2, .ref 75]) (by decide +kernel) (fun _ => rfl)).trans ?_
    refine (R_iaload (kd := 100) (n := 24) (by decide +kernel) rfl (by decide) (h5 c0)).trans ?_
    refine (R_iastore (n := 6) (by decide +kernel) rfl (h6 c0)).trans ?_
    refine (R_pure0 (ins := .aload_n 0) (len := 1) (loc' := [.ref 68, .int x1, .int x2]) (st' := [.ref 68]) (by decide +kernel) (fun _ => rfl)).trans ?_
    refine (R_gr (i := 31) (ci := 10) (k := 8) (n := 33) (b := 76) (by decide +kernel) (by decide +kernel) (by decide) rfl (SH_ref (by decide +kernel))).trans ?_
    refine (R_pure0 (ins := .iload_n 2) (len := 1) (loc' := [.ref 68, .int x1, .int x2]) (st' := [.int x2, .ref 76]) (by decide +kernel) (fun _ => rfl)).trans ?_
    refine (R_pure0 (ins := .aload_n 0) (len := 1) (loc' := [.ref 68, .int x1, .int x2]) (st' := [.ref 68, .int x2, .ref 76]) (by decide +kernel) (fun _ => rfl)).trans ?_
    refine (R_gr (i := 54) (ci := 10) (k := 21) (n := 33) (b := 82) (by decide +kernel) (by decide +kernel) (by decide) rfl (SH_ref (by decide +kernel))).trans ?_
    refine (R_iconst (n := 4) (v := 4) (by decide +kernel) (by decide +kernel)).trans ?_
    refine (R_pure0 (ins := .iload_n 2) (len := 1) (loc' := [.ref 68, .int x1, .int x2]) (st' := [.int x2, .int 4, .ref 82, .int x2, .ref 76]) (by decide +kernel) (fun _ => rfl)).trans ?_
    refine (R_pure0 (ins := .imul) (len := 1) (loc' := [.ref 68, .int x1, .int x2]) (st' := [.int (4 * x2), .ref 82, .int x2, .ref 76]) (by decide +kernel) (fun _ => rfl)).trans ?_
    refine (R_iconst (n := 3) (v := 3) (by decide +kernel) (by decide +kernel)).trans ?_
    refine (R_pure0 (ins := .iadd) (len := 1) (loc' := [.ref 68, .int x1, .int x2]) (st' := [.int ((4 * x2) + 3), .ref 82, .int x2, .ref 76]) (by decide +kernel) (fun _ => rfl)).trans ?_
    refine (R_iaload (kd := 100) (n := 24) (by decide +kernel) rfl (by decide) (h7 c0)).trans ?_
    refine (R_iastore (n := 6) (by decide +kernel) rfl (h8 c0)).trans ?_
    refine (R_iinc (k := 2) (n := 1) (x := x2) (v := (x2 + 1)) (loc' := [.ref 68, .int x1, .int (x2 + 1)]) (by decide +kernel) rfl rfl rfl).trans ?_
    refine (R_goto (off := (-73)) (t := 47) (by decide +kernel) (by decide +kernel)).trans ?_
    rfl
  · refine (R_iconst (n := 0) (v := 0) (by decide +kernel) (by decide +kernel)).trans ?_
    refine (R_pure0 (ins := .istore_n 2) (len := 1) (loc' := [.ref 68, .int x1, .int 0]) (st' := []) (by decide +kernel) (fun _ => rfl)).trans ?_
    rfl
theorem s171_125 {L : Nat} {mi : Nat → Nat → Int32} {ml : Nat → Nat → Int64} {d : Nat} {Q : Option Value → xM → Prop} {x1 x2 : Int32} (h1 : (x2 < 15) → (x2 = 14) → xin x2 15 = true) (h2 : (x2 < 15) → ¬ (x2 = 14) → xin x2 15 = true) : X 171 125 [.ref 68, .int x1, .int x2] [] (SH L, mi, ml, MR) d Q =
    if (x2 < 15) then (if (x2 = 14) then (X 171 125 [.ref 68, .int x1, .int (x2 + 1)] [] (SH L, (xw mi 77 x2.toNatClampNeg 10), ml, MR) d Q) else (X 171 125 [.ref 68, .int x1, .int (x2 + 1)] [] (SH L, (xw mi 77 x2.toNatClampNeg 0), ml, MR) d Q)) else (X 171 162 [.ref 68, .int x1, .int 0] [] (SH L, (xw mi 68 10 0), ml, MR) d Q) := by
  refine (R_pure0 (ins := .iload_n 2) (len := 1) (loc' := [.ref 68, .int x1, .int x2]) (st' := [.int x2]) (by decide +kernel) (fun _ => rfl)).trans ?_
  refine (R_bipush (n := 15) (v := 15) (by decide +kernel) (by decide +kernel)).trans ?_
  refine (R_icmp_ge (off := 27) (t := 155) (by decide +kernel) (by decide +kernel)).trans (ite_congr rfl (fun c0 => ?_) (fun c0 => ?_))
  · refine (R_pure0 (ins := .aload_n 0) (len := 1) (loc' := [.ref 68, .int x1, .int x2]) (st' := [.ref 68]) (by decide +kernel) (fun _ => rfl)).trans ?_
    refine (R_gr (i := 34) (ci := 10) (k := 9) (n := 33) (b := 77) (by decide +kernel) (by decide +kernel) (by decide) rfl (SH_ref (by decide +kernel))).trans ?_
    refine (R_pure0 (ins := .iload_n 2) (len := 1) (loc' := [.ref 68, .int x1, .int x2]) (st' := [.int x2, .ref 77]) (by decide +kernel) (fun _ => rfl)).trans ?_
    refine (R_pure0 (ins := .iload_n 2) (len := 1) (loc' := [.ref 68, .int x1, .int x2]) (st' := [.int x2, .int x2, .ref 77]) (by decide +kernel) (fun _ => rfl)).trans ?_
    refine (R_bipush (n := 14) (v := 14) (by decide +kernel) (by decide +kernel)).trans ?_
    refine (R_icmp_ne (off := 8) (t := 147) (by decide +kernel) (by decide +kernel)).trans (ite_congr rfl (fun c1 => ?_) (fun c1 => ?_))
    · refine (R_bipush (n := 10) (v := 10) (by decide +kernel) (by decide +kernel)).trans ?_
      refine (R_goto (off := 4) (t := 148) (by decide +kernel) (by decide +kernel)).trans ?_
      refine (R_iastore (n := 15) (by decide +kernel) rfl (h1 c0 c1)).trans ?_
      refine (R_iinc (k := 2) (n := 1) (x := x2) (v := (x2 + 1)) (loc' := [.ref 68, .int x1, .int (x2 + 1)]) (by decide +kernel) rfl rfl rfl).trans ?_
      refine (R_goto (off := (-27)) (t := 125) (by decide +kernel) (by decide +kernel)).trans ?_
      rfl
    · refine (R_iconst (n := 0) (v := 0) (by decide +kernel) (by decide +kernel)).trans ?_
      refine (R_iastore (n := 15) (by decide +kernel) rfl (h2 c0 c1)).trans ?_
      refine (R_iinc (k := 2) (n := 1) (x := x2) (v := (x2 + 1)) (loc' := [.ref 68, .int x1, .int (x2 + 1)]) (by decide +kernel) rfl rfl rfl).trans ?_
      refine (R_goto (off := (-27)) (t := 125) (by decide +kernel) (by decide +kernel)).trans ?_
      rfl
  · refine (R_pure0 (ins := .aload_n 0) (len := 1) (loc' := [.ref 68, .int x1, .int x2]) (st' := [.ref 68]) (by decide +kernel) (fun _ => rfl)).trans ?_
    refine (R_iconst (n := 0) (v := 0) (by decide +kernel) (by decide +kernel)).trans ?_
    refine (R_pi (i := 134) (ci := 10) (k := 10) (n := 33) (by decide +kernel) (by decide +kernel) (by decide) rfl).trans ?_
    refine (R_iconst (n := 0) (v := 0) (by decide +kernel) (by decide +kernel)).trans ?_
    refine (R_pure0 (ins := .istore_n 2) (len := 1) (loc' := [.ref 68, .int x1, .int 0]) (st' := []) (by decide +kernel) (fun _ => rfl)).trans ?_
    rfl
theorem s171_162 {L : Nat} {mi : Nat → Nat → Int32} {ml : Nat → Nat → Int64} {d : Nat} {Q : Option Value → xM → Prop} {x1 x2 : Int32} (h1 : (x2 < 3) → xin x2 3 = true) : X 171 162 [.ref 68, .int x1, .int x2] [] (SH L, mi, ml, MR) d Q =
    if (x2 < 3) then (X 171 162 [.ref 68, .int x1, .int (x2 + 1)] [] (SH L, (xw mi 80 x2.toNatClampNeg 0), ml, MR) d Q) else (Q (some (.int (mi 68 4))) (SH L, mi, ml, MR)) := by
  refine (R_pure0 (ins := .iload_n 2) (len := 1) (loc' := [.ref 68, .int x1, .int x2]) (st' := [.int x2]) (by decide +kernel) (fun _ => rfl)).trans ?_
  refine (R_iconst (n := 3) (v := 3) (by decide +kernel) (by decide +kernel)).trans ?_
  refine (R_icmp_ge (off := 16) (t := 180) (by decide +kernel) (by decide +kernel)).trans (ite_congr rfl (fun c0 => ?_) (fun c0 => ?_))
  · refine (R_pure0 (ins := .aload_n 0) (len := 1) (loc' := [.ref 68, .int x1, .int x2]) (st' := [.ref 68]) (by decide +kernel) (fun _ => rfl)).trans ?_
    refine (R_gr (i := 43) (ci := 10) (k := 13) (n := 33) (b := 80) (by decide +kernel) (by decide +kernel) (by decide) rfl (SH_ref (by decide +kernel))).trans ?_
    refine (R_pure0 (ins := .iload_n 2) (len := 1) (loc' := [.ref 68, .int x1, .int x2]) (st' := [.int x2, .ref 80]) (by decide +kernel) (fun _ => rfl)).trans ?_
    refine (R_iconst (n := 0) (v := 0) (by decide +kernel) (by decide +kernel)).trans ?_
    refine (R_bastore (n := 3) (by decide +kernel) rfl (h1 c0) (by decide)).trans ?_
    refine (R_iinc (k := 2) (n := 1) (x := x2) (v := (x2 + 1)) (loc' := [.ref 68, .int x1, .int (x2 + 1)]) (by decide +kernel) rfl rfl rfl).trans ?_
    refine (R_goto (off := (-15)) (t := 162) (by decide +kernel) (by decide +kernel)).trans ?_
    rfl
  · refine (R_pure0 (ins := .aload_n 0) (len := 1) (loc' := [.ref 68, .int x1, .int x2]) (st' := [.ref 68]) (by decide +kernel) (fun _ => rfl)).trans ?_
    refine (R_gi (i := 131) (ci := 10) (k := 4) (n := 33) (by decide +kernel) (by decide +kernel) (by decide) rfl).trans ?_
    exact R_ireturn (by decide +kernel) (by decide +kernel)
theorem s172 {L : Nat} {mi : Nat → Nat → Int32} {ml : Nat → Nat → Int64} {d : Nat} {Q : Option Value → xM → Prop} {x1 : Int32} : Xm 172 [.ref 68, .int x1] (SH L, mi, ml, MR) (d + 1) Q =
    Xm 149 [.long x1.toInt64, .long 0, .long ((mi 68 4) - 1).toInt64] (SH L, mi, ml, MR) d (fun v μ' => X 172 13 [.ref 68, .int x1] (v.toList ++ []) μ' (d + 1) Q) := by
  rw [Xm_ent (n := 2) (loc := [.ref 68, .int x1]) (by decide +kernel) rfl]
  refine (R_pure0 (ins := .iload_n 1) (len := 1) (loc' := [.ref 68, .int x1]) (st' := [.int x1]) (by decide +kernel) (fun _ => rfl)).trans ?_
  refine (R_pure0 (ins := .i2l) (len := 1) (loc' := [.ref 68, .int x1]) (st' := [.long x1.toInt64]) (by decide +kernel) (fun _ => rfl)).trans ?_
  refine (R_lconst (n := 0) (v := 0) (by decide +kernel) (by decide +kernel)).trans ?_
  refine (R_pure0 (ins := .aload_n 0) (len := 1) (loc' := [.ref 68, .int x1]) (st' := [.ref 68, .long 0, .long x1.toInt64]) (by decide +kernel) (fun _ => rfl)).trans ?_
  refine (R_gi (i := 131) (ci := 10) (k := 4) (n := 33) (by decide +kernel) (by decide +kernel) (by decide) rfl).trans ?_
  refine (R_iconst (n := 1) (v := 1) (by decide +kernel) (by decide +kernel)).trans ?_
  refine (R_pure0 (ins := .isub) (len := 1) (loc' := [.ref 68, .int x1]) (st' := [.int ((mi 68 4) - 1), .long 0, .long x1.toInt64]) (by decide +kernel) (fun _ => rfl)).trans ?_
  refine (R_pure0 (ins := .i2l) (len := 1) (loc' := [.ref 68, .int x1]) (st' := [.long ((mi 68 4) - 1).toInt64, .long 0, .long x1.toInt64]) (by decide +kernel) (fun _ => rfl)).trans ?_
  refine (R_static (i := 87) (f := 149) (kd := 2) (na := 3) (ml := 6) (As := [.long x1.toInt64, .long 0, .long ((mi 68 4) - 1).toInt64]) (rest := []) (by decide +kernel) (by decide +kernel) (by decide) (by decide +kernel) rfl rfl (by decide +kernel) (Nat.le_of_ble_eq_true rfl)).trans ?_
  rfl
theorem s172_13 {L : Nat} {mi : Nat → Nat → Int32} {ml : Nat → Nat → Int64} {d : Nat} {Q : Option Value → xM → Prop} {x1 y : Int32} (h1 : (y = 0 ∨ y = 1)) : X 172 13 [.ref 68, .int x1] [.int y] (SH L, mi, ml, MR) d Q =
    Q (some (.int y)) (SH L, mi, ml, MR) := by
  exact R_zreturn (by decide +kernel) (by decide +kernel) (h1)
theorem s173 {L : Nat} {mi : Nat → Nat → Int32} {ml : Nat → Nat → Int64} {d : Nat} {Q : Option Value → xM → Prop} {x0 : Int32} : Xm 173 [.int x0] (SH L, mi, ml, MR) (d + 1) Q =
    Xm 149 [.long x0.toInt64, .long 0, .long 8] (SH L, mi, ml, MR) d (fun v μ' => X 173 9 [.int x0] (v.toList ++ []) μ' (d + 1) Q) := by
  rw [Xm_ent (n := 1) (loc := [.int x0]) (by decide +kernel) rfl]
  refine (R_pure0 (ins := .iload_n 0) (len := 1) (loc' := [.int x0]) (st' := [.int x0]) (by decide +kernel) (fun _ => rfl)).trans ?_
  refine (R_pure0 (ins := .i2l) (len := 1) (loc' := [.int x0]) (st' := [.long x0.toInt64]) (by decide +kernel) (fun _ => rfl)).trans ?_
  refine (R_lconst (n := 0) (v := 0) (by decide +kernel) (by decide +kernel)).trans ?_
  refine (R_ldc2 (i := 137) (v := 8) (by decide +kernel) (by decide +kernel)).trans ?_
  refine (R_static (i := 87) (f := 149) (kd := 2) (na := 3) (ml := 6) (As := [.long x0.toInt64, .long 0, .long 8]) (rest := []) (by decide +kernel) (by decide +kernel) (by decide) (by decide +kernel) rfl rfl (by decide +kernel) (Nat.le_of_ble_eq_true rfl)).trans ?_
  rfl
theorem s173_9 {L : Nat} {mi : Nat → Nat → Int32} {ml : Nat → Nat → Int64} {d : Nat} {Q : Option Value → xM → Prop} {x0 y : Int32} (h1 : (y = 0 ∨ y = 1)) : X 173 9 [.int x0] [.int y] (SH L, mi, ml, MR) d Q =
    Q (some (.int y)) (SH L, mi, ml, MR) := by
  exact R_zreturn (by decide +kernel) (by decide +kernel) (h1)
theorem s174 {L : Nat} {mi : Nat → Nat → Int32} {ml : Nat → Nat → Int64} {d : Nat} {Q : Option Value → xM → Prop} {x0 : Int32} : Xm 174 [.int x0] (SH L, mi, ml, MR) d Q =
    if ((9 : Int32) < x0) then (Q (some (.int 9)) (SH L, mi, ml, MR)) else (Q (some (.int x0)) (SH L, mi, ml, MR)) := by
  rw [Xm_ent (n := 1) (loc := [.int x0]) (by decide +kernel) rfl]
  refine (R_pure0 (ins := .iload_n 0) (len := 1) (loc' := [.int x0]) (st' := [.int x0]) (by decide +kernel) (fun _ => rfl)).trans ?_
  refine (R_bipush (n := 9) (v := 9) (by decide +kernel) (by decide +kernel)).trans ?_
  refine (R_icmp_le (off := 8) (t := 11) (by decide +kernel) (by decide +kernel)).trans (ite_congr rfl (fun c0 => ?_) (fun c0 => ?_))
  · refine (R_bipush (n := 9) (v := 9) (by decide +kernel) (by decide +kernel)).trans ?_
    refine (R_goto (off := 4) (t := 12) (by decide +kernel) (by decide +kernel)).trans ?_
    exact R_ireturn (by decide +kernel) (by decide +kernel)
  · refine (R_pure0 (ins := .iload_n 0) (len := 1) (loc' := [.int x0]) (st' := [.int x0]) (by decide +kernel) (fun _ => rfl)).trans ?_
    exact R_ireturn (by decide +kernel) (by decide +kernel)
theorem s175 {L : Nat} {mi : Nat → Nat → Int32} {ml : Nat → Nat → Int64} {d : Nat} {Q : Option Value → xM → Prop} {x0 x1 : Int32} : Xm 175 [.int x0, .int x1] (SH L, mi, ml, MR) d Q =
    if (x0 = x1) then (Q (some (.int 1)) (SH L, mi, ml, MR)) else (if (x1 = 1) then (if (x0 = 4) then (Q (some (.int 1)) (SH L, mi, ml, MR)) else (if (x1 = 2) then (if (x0 = 5) then (Q (some (.int 1)) (SH L, mi, ml, MR)) else (Q (some (.int 0)) (SH L, mi, ml, MR))) else (Q (some (.int 0)) (SH L, mi, ml, MR)))) else (if (x1 = 2) then (if (x0 = 5) then (Q (some (.int 1)) (SH L, mi, ml, MR)) else (Q (some (.int 0)) (SH L, mi, ml, MR))) else (Q (some (.int 0)) (SH L, mi, ml, MR)))) := by
  rw [Xm_ent (n := 2) (loc := [.int x0, .int x1]) (by decide +kernel) rfl]
  refine (R_pure0 (ins := .iload_n 0) (len := 1) (loc' := [.int x0, .int x1]) (st' := [.int x0]) (by decide +kernel) (fun _ => rfl)).trans ?_
  refine (R_pure0 (ins := .iload_n 1) (len := 1) (loc' := [.int x0, .int x1]) (st' := [.int x1, .int x0]) (by decide +kernel) (fun _ => rfl)).trans ?_
  refine (R_icmp_eq (off := 23) (t := 25) (by decide +kernel) (by decide +kernel)).trans (ite_congr rfl (fun c0 => ?_) (fun c0 => ?_))
  · refine (R_iconst (n := 1) (v := 1) (by decide +kernel) (by decide +kernel)).trans ?_
    refine (R_goto (off := 4) (t := 30) (by decide +kernel) (by decide +kernel)).trans ?_
    exact R_zreturn (by decide +kernel) (by decide +kernel) (by decide)
  · refine (R_pure0 (ins := .iload_n 1) (len := 1) (loc' := [.int x0, .int x1]) (st' := [.int x1]) (by decide +kernel) (fun _ => rfl)).trans ?_
    refine (R_iconst (n := 1) (v := 1) (by decide +kernel) (by decide +kernel)).trans ?_
    refine (R_icmp_ne (off := 8) (t := 15) (by decide +kernel) (by decide +kernel)).trans (ite_congr rfl (fun c1 => ?_) (fun c1 => ?_))
    · refine (R_pure0 (ins := .iload_n 0) (len := 1) (loc' := [.int x0, .int x1]) (st' := [.int x0]) (by decide +kernel) (fun _ => rfl)).trans ?_
      refine (R_iconst (n := 4) (v := 4) (by decide +kernel) (by decide +kernel)).trans ?_
      refine (R_icmp_eq (off := 13) (t := 25) (by decide +kernel) (by decide +kernel)).trans (ite_congr rfl (fun c2 => ?_) (fun c2 => ?_))
      · refine (R_iconst (n := 1) (v := 1) (by decide +kernel) (by decide +kernel)).trans ?_
        refine (R_goto (off := 4) (t := 30) (by decide +kernel) (by decide +kernel)).trans ?_
        exact R_zreturn (by decide +kernel) (by decide +kernel) (by decide)
      · refine (R_pure0 (ins := .iload_n 1) (len := 1) (loc' := [.int x0, .int x1]) (st' := [.int x1]) (by decide +kernel) (fun _ => rfl)).trans ?_
        refine (R_iconst (n := 2) (v := 2) (by decide +kernel) (by decide +kernel)).trans ?_
        refine (R_icmp_ne (off := 12) (t := 29) (by decide +kernel) (by decide +kernel)).trans (ite_congr rfl (fun c3 => ?_) (fun c3 => ?_))
        · refine (R_pure0 (ins := .iload_n 0) (len := 1) (loc' := [.int x0, .int x1]) (st' := [.int x0]) (by decide +kernel) (fun _ => rfl)).trans ?_
          refine (R_iconst (n := 5) (v := 5) (by decide +kernel) (by decide +kernel)).trans ?_
          refine (R_icmp_ne (off := 7) (t := 29) (by decide +kernel) (by decide +kernel)).trans (ite_congr rfl (fun c4 => ?_) (fun c4 => ?_))
          · refine (R_iconst (n := 1) (v := 1) (by decide +kernel) (by decide +kernel)).trans ?_
            refine (R_goto (off := 4) (t := 30) (by decide +kernel) (by decide +kernel)).trans ?_
            exact R_zreturn (by decide +kernel) (by decide +kernel) (by decide)
          · refine (R_iconst (n := 0) (v := 0) (by decide +kernel) (by decide +kernel)).trans ?_
            exact R_zreturn (by decide +kernel) (by decide +kernel) (by decide)
        · refine (R_iconst (n := 0) (v := 0) (by decide +kernel) (by decide +kernel)).trans ?_
          exact R_zreturn (by decide +kernel) (by decide +kernel) (by decide)
    · refine (R_pure0 (ins := .iload_n 1) (len := 1) (loc' := [.int x0, .int x1]) (st' := [.int x1]) (by decide +kernel) (fun _ => rfl)).trans ?_
      refine (R_iconst (n := 2) (v := 2) (by decide +kernel) (by decide +kernel)).trans ?_
      refine (R_icmp_ne (off := 12) (t := 29) (by decide +kernel) (by decide +kernel)).trans (ite_congr rfl (fun c5 => ?_) (fun c5 => ?_))
      · refine (R_pure0 (ins := .iload_n 0) (len := 1) (loc' := [.int x0, .int x1]) (st' := [.int x0]) (by decide +kernel) (fun _ => rfl)).trans ?_
        refine (R_iconst (n := 5) (v := 5) (by decide +kernel) (by decide +kernel)).trans ?_
        refine (R_icmp_ne (off := 7) (t := 29) (by decide +kernel) (by decide +kernel)).trans (ite_congr rfl (fun c6 => ?_) (fun c6 => ?_))
        · refine (R_iconst (n := 1) (v := 1) (by decide +kernel) (by decide +kernel)).trans ?_
          refine (R_goto (off := 4) (t := 30) (by decide +kernel) (by decide +kernel)).trans ?_
          exact R_zreturn (by decide +kernel) (by decide +kernel) (by decide)
        · refine (R_iconst (n := 0) (v := 0) (by decide +kernel) (by decide +kernel)).trans ?_
          exact R_zreturn (by decide +kernel) (by decide +kernel) (by decide)
      · refine (R_iconst (n := 0) (v := 0) (by decide +kernel) (by decide +kernel)).trans ?_
        exact R_zreturn (by decide +kernel) (by decide +kernel) (by decide)
theorem s176 {L : Nat} {mi : Nat → Nat → Int32} {ml : Nat → Nat → Int64} {d : Nat} {Q : Option Value → xM → Prop} {x1 x2 x3 : Int32} (h1 : xin x1 6 = true) : Xm 176 [.ref 68, .int x1, .int x2, .int x3] (SH L, mi, ml, MR) d Q =
    if (((x3 + x2) - (mi 74 x1.toNatClampNeg)) < 0) then (Q (some (.int 0)) (SH L, mi, ml, MR)) else (Q (some (.int ((x3 + x2) - (mi 74 x1.toNatClampNeg)))) (SH L, mi, ml, MR)) := by
  rw [Xm_ent (n := 5) (loc := [.ref 68, .int x1, .int x2, .int x3, xmk]) (by decide +kernel) rfl]
  refine (R_pure0 (ins := .iload_n 3) (len := 1) (loc' := [.ref 68, .int x1, .int x2, .int x3, xmk]) (st' := [.int x3]) (by decide +kernel) (fun _ => rfl)).trans ?_
  refine (R_pure0 (ins := .iload_n 2) (len := 1) (loc' := [.ref 68, .int x1, .int x2, .int x3, xmk]) (st' := [.int x2, .int x3]) (by decide +kernel) (fun _ => rfl)).trans ?_
  refine (R_pure0 (ins := .iadd) (len := 1) (loc' := [.ref 68, .int x1, .int x2, .int x3, xmk]) (st' := [.int (x3 + x2)]) (by decide +kernel) (fun _ => rfl)).trans ?_
  refine (R_pure0 (ins := .aload_n 0) (len := 1) (loc' := [.ref 68, .int x1, .int x2, .int x3, xmk]) (st' := [.ref 68, .int (x3 + x2)]) (by decide +kernel) (fun _ => rfl)).trans ?_
  refine (R_gr (i := 25) (ci := 10) (k := 6) (n := 33) (b := 74) (by decide +kernel) (by decide +kernel) (by decide) rfl (SH_ref (by decide +kernel))).trans ?_
  refine (R_pure0 (ins := .iload_n 1) (len := 1) (loc' := [.ref 68, .int x1, .int x2, .int x3, xmk]) (st' := [.int x1, .ref 74, .int (x3 + x2)]) (by decide +kernel) (fun _ => rfl)).trans ?_
  refine (R_iaload (kd := 100) (n := 6) (by decide +kernel) rfl (by decide) (h1)).trans ?_
  refine (R_pure0 (ins := .isub) (len := 1) (loc' := [.ref 68, .int x1, .int x2, .int x3, xmk]) (st' := [.int ((x3 + x2) - (mi 74 x1.toNatClampNeg))]) (by decide +kernel) (fun _ => rfl)).trans ?_
  refine (R_pure0 (ins := .istore 4) (len := 2) (loc' := [.ref 68, .int x1, .int x2, .int x3, .int ((x3 + x2) - (mi 74 x1.toNatClampNeg))]) (st' := []) (by decide +kernel) (fun _ => rfl)).trans ?_
  refine (R_pure0 (ins := .iload 4) (len := 2) (loc' := [.ref 68, .int x1, .int x2, .int x3, .int ((x3 + x2) - (mi 74 x1.toNatClampNeg))]) (st' := [.int ((x3 + x2) - (mi 74 x1.toNatClampNeg))]) (by decide +kernel) (fun _ => rfl)).trans ?_
  refine (R_if_ge (off := 7) (t := 21) (by decide +kernel) (by decide +kernel)).trans (ite_congr rfl (fun c0 => ?_) (fun c0 => ?_))
  · refine (R_iconst (n := 0) (v := 0) (by decide +kernel) (by decide +kernel)).trans ?_
    refine (R_goto (off := 5) (t := 23) (by decide +kernel) (by decide +kernel)).trans ?_
    exact R_ireturn (by decide +kernel) (by decide +kernel)
  · refine (R_pure0 (ins := .iload 4) (len := 2) (loc' := [.ref 68, .int x1, .int x2, .int x3, .int ((x3 + x2) - (mi 74 x1.toNatClampNeg))]) (st' := [.int ((x3 + x2) - (mi 74 x1.toNatClampNeg))]) (by decide +kernel) (fun _ => rfl)).trans ?_
    exact R_ireturn (by decide +kernel) (by decide +kernel)
theorem s177 {L : Nat} {mi : Nat → Nat → Int32} {ml : Nat → Nat → Int64} {d : Nat} {Q : Option Value → xM → Prop} {x1 x2 x3 : Int32} : Xm 177 [.ref 68, .int x1, .int x2, .int x3] (SH L, mi, ml, MR) (d + 1) Q =
    Xm 176 [.ref 68, .int x1, .int x2, .int x3] (SH L, mi, ml, MR) d (fun v μ' => X 177 7 [.ref 68, .int x1, .int x2, .int x3, xmk, xmk] (v.toList ++ []) μ' (d + 1) Q) := by
  rw [Xm_ent (n := 6) (loc := [.ref 68, .int x1, .int x2, .int x3, xmk, xmk]) (by decide +kernel) rfl]
  refine (R_pure0 (ins := .aload_n 0) (len := 1) (loc' := [.ref 68, .int x1, .int x2, .int x3, xmk, xmk]) (st' := [.ref 68]) (by decide +kernel) (fun _ => rfl)).trans ?_
  refine (R_pure0 (ins := .iload_n 1) (len := 1) (loc' := [.ref 68, .int x1, .int x2, .int x3, xmk, xmk]) (st' := [.int x1, .ref 68]) (by decide +kernel) (fun _ => rfl)).trans ?_
  refine (R_pure0 (ins := .iload_n 2) (len := 1) (loc' := [.ref 68, .int x1, .int x2, .int x3, xmk, xmk]) (st' := [.int x2, .int x1, .ref 68]) (by decide +kernel) (fun _ => rfl)).trans ?_
  refine (R_pure0 (ins := .iload_n 3) (len := 1) (loc' := [.ref 68, .int x1, .int x2, .int x3, xmk, xmk]) (st' := [.int x3, .int x2, .int x1, .ref 68]) (by decide +kernel) (fun _ => rfl)).trans ?_
  refine (R_virt (i := 139) (f := 176) (kd := 0) (na := 3) (ml := 5) (ci := 10) (n := 33) (b := 68) (As := [.int x1, .int x2, .int x3]) (rest := []) (by decide +kernel) (by decide +kernel) (by decide) (by decide +kernel) rfl (by decide +kernel) rfl rfl (by decide +kernel) (Nat.le_of_ble_eq_true rfl)).trans ?_
  rfl
theorem s177_7 {L : Nat} {mi : Nat → Nat → Int32} {ml : Nat → Nat → Int64} {d : Nat} {Q : Option Value → xM → Prop} {x1 x2 x3 y : Int32} (h1 : xin x1 6 = true) (h2 : ¬ (mi 75 x1.toNatClampNeg) = 0) : X 177 7 [.ref 68, .int x1, .int x2, .int x3, xmk, xmk] [.int y] (SH L, mi, ml, MR) (d + 1) Q =
    Xm 174 [.int (y / (mi 75 x1.toNatClampNeg))] (SH L, mi, ml, MR) d (fun v μ' => X 177 21 [.ref 68, .int x1, .int x2, .int x3, .int y, xmk] (v.toList ++ []) μ' (d + 1) Q) := by
  refine (R_pure0 (ins := .istore 4) (len := 2) (loc' := [.ref 68, .int x1, .int x2, .int x3, .int y, xmk]) (st' := []) (by decide +kernel) (fun _ => rfl)).trans ?_
  refine (R_pure0 (ins := .iload 4) (len := 2) (loc' := [.ref 68, .int x1, .int x2, .int x3, .int y, xmk]) (st' := [.int y]) (by decide +kernel) (fun _ => rfl)).trans ?_
  refine (R_pure0 (ins := .aload_n 0) (len := 1) (loc' := [.ref 68, .int x1, .int x2, .int x3, .int y, xmk]) (st' := [.ref 68, .int y]) (by decide +kernel) (fun _ => rfl)).trans ?_
  refine (R_gr (i := 28) (ci := 10) (k := 7) (n := 33) (b := 75) (by decide +kernel) (by decide +kernel) (by decide) rfl (SH_ref (by decide +kernel))).trans ?_
  refine (R_pure0 (ins := .iload_n 1) (len := 1) (loc' := [.ref 68, .int x1, .int x2, .int x3, .int y, xmk]) (st' := [.int x1, .ref 75, .int y]) (by decide +kernel) (fun _ => rfl)).trans ?_
  refine (R_iaload (kd := 100) (n := 6) (by decide +kernel) rfl (by decide) (h1)).trans ?_
  refine (R_idiv (x := y) (y := (mi 75 x1.toNatClampNeg)) (by decide +kernel) (h2)).trans ?_
  refine (R_static (i := 143) (f := 174) (kd := 2) (na := 1) (ml := 1) (As := [.int (y / (mi 75 x1.toNatClampNeg))]) (rest := []) (by decide +kernel) (by decide +kernel) (by decide) (by decide +kernel) rfl rfl (by decide +kernel) (Nat.le_of_ble_eq_true rfl)).trans ?_
  rfl
theorem s177_21 {L : Nat} {mi : Nat → Nat → Int32} {ml : Nat → Nat → Int64} {d : Nat} {Q : Option Value → xM → Prop} {x1 x2 x3 x4 y : Int32} (h1 : xin x1 6 = true) : X 177 21 [.ref 68, .int x1, .int x2, .int x3, .int x4, xmk] [.int y] (SH L, mi, ml, MR) (d + 1) Q =
    Xm 175 [.int (mi 73 x1.toNatClampNeg), .int 1] (SH L, mi, ml, MR) d (fun v μ' => X 177 33 [.ref 68, .int x1, .int x2, .int x3, .int x4, .int y] (v.toList ++ []) μ' (d + 1) Q) := by
  refine (R_pure0 (ins := .istore 5) (len := 2) (loc' := [.ref 68, .int x1, .int x2, .int x3, .int x4, .int y]) (st' := []) (by decide +kernel) (fun _ => rfl)).trans ?_
  refine (R_pure0 (ins := .aload_n 0) (len := 1) (loc' := [.ref 68, .int x1, .int x2, .int x3, .int x4, .int y]) (st' := [.ref 68]) (by decide +kernel) (fun _ => rfl)).trans ?_
  refine (R_gr (i := 22) (ci := 10) (k := 5) (n := 33) (b := 73) (by decide +kernel) (by decide +kernel) (by decide) rfl (SH_ref (by decide +kernel))).trans ?_
  refine (R_pure0 (ins := .iload_n 1) (len := 1) (loc' := [.ref 68, .int x1, .int x2, .int x3, .int x4, .int y]) (st' := [.int x1, .ref 73]) (by decide +kernel) (fun _ => rfl)).trans ?_
  refine (R_iaload (kd := 100) (n := 6) (by decide +kernel) rfl (by decide) (h1)).trans ?_
  refine (R_iconst (n := 1) (v := 1) (by decide +kernel) (by decide +kernel)).trans ?_
  refine (R_static (i := 146) (f := 175) (kd := 2) (na := 2) (ml := 2) (As := [.int (mi 73 x1.toNatClampNeg), .int 1]) (rest := []) (by decide +kernel) (by decide +kernel) (by decide) (by decide +kernel) rfl rfl (by decide +kernel) (Nat.le_of_ble_eq_true rfl)).trans ?_
  rfl
theorem s177_33 {L : Nat} {mi : Nat → Nat → Int32} {ml : Nat → Nat → Int64} {d : Nat} {Q : Option Value → xM → Prop} {x1 x2 x3 x4 x5 y : Int32} (h1 : (y = 0) → xin x1 6 = true) : X 177 33 [.ref 68, .int x1, .int x2, .int x3, .int x4, .int x5] [.int y] (SH L, mi, ml, MR) (d + 1) Q =
    if (y = 0) then (Xm 175 [.int (mi 73 x1.toNatClampNeg), .int 2] (SH L, mi, ml, MR) d (fun v μ' => X 177 64 [.ref 68, .int x1, .int x2, .int x3, .int x4, .int x5] (v.toList ++ []) μ' (d + 1) Q)) else (if ((0 : Int32) < x4) then (Xm 174 [.int (x5 + 1)] (SH L, mi, ml, MR) d (fun v μ' => X 177 53 [.ref 68, .int x1, .int x2, .int x3, .int x4, .int x5] (v.toList ++ []) μ' (d + 1) Q)) else (Xm 174 [.int x5] (SH L, mi, ml, MR) d (fun v μ' => X 177 53 [.ref 68, .int x1, .int x2, .int x3, .int x4, .int x5] (v.toList ++ []) μ' (d + 1) Q))) := by
  refine (R_if_eq (off := 21) (t := 54) (by decide +kernel) (by decide +kernel)).trans (ite_congr rfl (fun c0 => ?_) (fun c0 => ?_))
  · refine (R_pure0 (ins := .aload_n 0) (len := 1) (loc' := [.ref 68, .int x1, .int x2, .int x3, .int x4, .int x5]) (st' := [.ref 68]) (by decide +kernel) (fun _ => rfl)).trans ?_
    refine (R_gr (i := 22) (ci := 10) (k := 5) (n := 33) (b := 73) (by decide +kernel) (by decide +kernel) (by decide) rfl (SH_ref (by decide +kernel))).trans ?_
    refine (R_pure0 (ins := .iload_n 1) (len := 1) (loc' := [.ref 68, .int x1, .int x2, .int x3, .int x4, .int x5]) (st' := [.int x1, .ref 73]) (by decide +kernel) (fun _ => rfl)).trans ?_
    refine (R_iaload (kd := 100) (n := 6) (by decide +kernel) rfl (by decide) (h1 c0)).trans ?_
    refine (R_iconst (n := 2) (v := 2) (by decide +kernel) (by decide +kernel)).trans ?_
    refine (R_static (i := 146) (f := 175) (kd := 2) (na := 2) (ml := 2) (As := [.int (mi 73 x1.toNatClampNeg), .int 2]) (rest := []) (by decide +kernel) (by decide +kernel) (by decide) (by decide +kernel) rfl rfl (by decide +kernel) (Nat.le_of_ble_eq_true rfl)).trans ?_
    rfl
  · refine (R_pure0 (ins := .iload 4) (len := 2) (loc' := [.ref 68, .int x1, .int x2, .int x3, .int x4, .int x5]) (st' := [.int x4]) (by decide +kernel) (fun _ => rfl)).trans ?_
    refine (R_if_le (off := 10) (t := 48) (by decide +kernel) (by decide +kernel)).trans (ite_congr rfl (fun c1 => ?_) (fun c1 => ?_))
    · refine (R_pure0 (ins := .iload 5) (len := 2) (loc' := [.ref 68, .int x1, .int x2, .int x3, .int x4, .int x5]) (st' := [.int x5]) (by decide +kernel) (fun _ => rfl)).trans ?_
      refine (R_iconst (n := 1) (v := 1) (by decide +kernel) (by decide +kernel)).trans ?_
      refine (R_pure0 (ins := .iadd) (len := 1) (loc' := [.ref 68, .int x1, .int x2, .int x3, .int x4, .int x5]) (st' := [.int (x5 + 1)]) (by decide +kernel) (fun _ => rfl)).trans ?_
      refine (R_goto (off := 5) (t := 50) (by decide +kernel) (by decide +kernel)).trans ?_
      refine (R_static (i := 143) (f := 174) (kd := 2) (na := 1) (ml := 1) (As := [.int (x5 + 1)]) (rest := []) (by decide +kernel) (by decide +kernel) (by decide) (by decide +kernel) rfl rfl (by decide +kernel) (Nat.le_of_ble_eq_true rfl)).trans ?_
      rfl
    · refine (R_pure0 (ins := .iload 5) (len := 2) (loc' := [.ref 68, .int x1, .int x2, .int x3, .int x4, .int x5]) (st' := [.int x5]) (by decide +kernel) (fun _ => rfl)).trans ?_
      refine (R_static (i := 143) (f := 174) (kd := 2) (na := 1) (ml := 1) (As := [.int x5]) (rest := []) (by decide +kernel) (by decide +kernel) (by decide) (by decide +kernel) rfl rfl (by decide +kernel) (Nat.le_of_ble_eq_true rfl)).trans ?_
      rfl
theorem s177_64 {L : Nat} {mi : Nat → Nat → Int32} {ml : Nat → Nat → Int64} {d : Nat} {Q : Option Value → xM → Prop} {x1 x2 x3 x4 x5 y : Int32} : X 177 64 [.ref 68, .int x1, .int x2, .int x3, .int x4, .int x5] [.int y] (SH L, mi, ml, MR) d Q =
    if (y = 0) then (Q (some (.int x5)) (SH L, mi, ml, MR)) else (Q (some (.int (x5 / 2))) (SH L, mi, ml, MR)) := by
  refine (R_if_eq (off := 10) (t := 74) (by decide +kernel) (by decide +kernel)).trans (ite_congr rfl (fun c0 => ?_) (fun c0 => ?_))
  · refine (R_pure0 (ins := .iload 5) (len := 2) (loc' := [.ref 68, .int x1, .int x2, .int x3, .int x4, .int x5]) (st' := [.int x5]) (by decide +kernel) (fun _ => rfl)).trans ?_
    exact R_ireturn (by decide +kernel) (by decide +kernel)
  · refine (R_pure0 (ins := .iload 5) (len := 2) (loc' := [.ref 68, .int x1, .int x2, .int x3, .int x4, .int x5]) (st' := [.int x5]) (by decide +kernel) (fun _ => rfl)).trans ?_
    refine (R_iconst (n := 2) (v := 2) (by decide +kernel) (by decide +kernel)).trans ?_
    refine (R_idiv (x := x5) (y := 2) (by decide +kernel) (by decide)).trans ?_
    refine (R_goto (off := 5) (t := 76) (by decide +kernel) (by decide +kernel)).trans ?_
    exact R_ireturn (by decide +kernel) (by decide +kernel)
theorem s177_53 {L : Nat} {mi : Nat → Nat → Int32} {ml : Nat → Nat → Int64} {d : Nat} {Q : Option Value → xM → Prop} {x1 x2 x3 x4 x5 y : Int32} : X 177 53 [.ref 68, .int x1, .int x2, .int x3, .int x4, .int x5] [.int y] (SH L, mi, ml, MR) d Q =
    Q (some (.int y)) (SH L, mi, ml, MR) := by
  exact R_ireturn (by decide +kernel) (by decide +kernel)
theorem s178 {L : Nat} {mi : Nat → Nat → Int32} {ml : Nat → Nat → Int64} {d : Nat} {Q : Option Value → xM → Prop} {x1 : Int32} (h1 : xin (0 + x1) 15 = true) : Xm 178 [.ref 68, .int x1] (SH L, mi, ml, MR) (d + 1) Q =
    Xm 177 [.ref 68, .int x1, .int (mi 77 (0 + x1).toNatClampNeg), .int (mi 77 (13 : Int32).toNatClampNeg)] (SH L, mi, ml, MR) d (fun v μ' => X 178 20 [.ref 68, .int x1] (v.toList ++ []) μ' (d + 1) Q) := by
  rw [Xm_ent (n := 2) (loc := [.ref 68, .int x1]) (by decide +kernel) rfl]
  refine (R_pure0 (ins := .aload_n 0) (len := 1) (loc' := [.ref 68, .int x1]) (st' := [.ref 68]) (by decide +kernel) (fun _ => rfl)).trans ?_
  refine (R_pure0 (ins := .iload_n 1) (len := 1) (loc' := [.ref 68, .int x1]) (st' := [.int x1, .ref 68]) (by decide +kernel) (fun _ => rfl)).trans ?_
  refine (R_pure0 (ins := .aload_n 0) (len := 1) (loc' := [.ref 68, .int x1]) (st' := [.ref 68, .int x1, .ref 68]) (by decide +kernel) (fun _ => rfl)).trans ?_
  refine (R_gr (i := 34) (ci := 10) (k := 9) (n := 33) (b := 77) (by decide +kernel) (by decide +kernel) (by decide) rfl (SH_ref (by decide +kernel))).trans ?_
  refine (R_iconst (n := 0) (v := 0) (by decide +kernel) (by decide +kernel)).trans ?_
  refine (R_pure0 (ins := .iload_n 1) (len := 1) (loc' := [.ref 68, .int x1]) (st' := [.int x1, .int 0, .ref 77, .int x1, .ref 68]) (by decide +kernel) (fun _ => rfl)).trans ?_
  refine (R_pure0 (ins := .iadd) (len := 1) (loc' := [.ref 68, .int x1]) (st' := [.int (0 + x1), .ref 77, .int x1, .ref 68]) (by decide +kernel) (fun _ => rfl)).trans ?_
  refine (R_iaload (kd := 100) (n := 15) (by decide +kernel) rfl (by decide) (h1)).trans ?_
  refine (R_pure0 (ins := .aload_n 0) (len := 1) (loc' := [.ref 68, .int x1]) (st' := [.ref 68, .int (mi 77 (0 + x1).toNatClampNeg), .int x1, .ref 68]) (by decide +kernel) (fun _ => rfl)).trans ?_
  refine (R_gr (i := 34) (ci := 10) (k := 9) (n := 33) (b := 77) (by decide +kernel) (by decide +kernel) (by decide) rfl (SH_ref (by decide +kernel))).trans ?_
  refine (R_bipush (n := 13) (v := 13) (by decide +kernel) (by decide +kernel)).trans ?_
  refine (R_iaload (kd := 100) (n := 15) (by decide +kernel) rfl (by decide) (by decide)).trans ?_
  refine (R_virt (i := 150) (f := 177) (kd := 0) (na := 3) (ml := 6) (ci := 10) (n := 33) (b := 68) (As := [.int x1, .int (mi 77 (0 + x1).toNatClampNeg), .int (mi 77 (13 : Int32).toNatClampNeg)]) (rest := []) (by decide +kernel) (by decide +kernel) (by decide) (by decide +kernel) rfl (by decide +kernel) rfl rfl (by decide +kernel) (Nat.le_of_ble_eq_true rfl)).trans ?_
  rfl
theorem s178_20 {L : Nat} {mi : Nat → Nat → Int32} {ml : Nat → Nat → Int64} {d : Nat} {Q : Option Value → xM → Prop} {x1 y : Int32} : X 178 20 [.ref 68, .int x1] [.int y] (SH L, mi, ml, MR) d Q =
    Q (some (.int y)) (SH L, mi, ml, MR) := by
  exact R_ireturn (by decide +kernel) (by decide +kernel)
theorem s179 {L : Nat} {mi : Nat → Nat → Int32} {ml : Nat → Nat → Int64} {d : Nat} {Q : Option Value → xM → Prop} {x0 x1 x2 : Int32} : Xm 179 [.int x0, .int x1, .int x2] (SH L, mi, ml, MR) d Q =
    if (x0 = 1) then (Q (some (.int ((x1 + (3 * x2)) - (x1 + (3 * x2)) / 10 * 10))) (SH L, mi, ml, MR)) else (if (x0 = 2) then (Q (some (.int ((x1 + x2) - (x1 + x2) / 10 * 10))) (SH L, mi, ml, MR)) else (if (x0 = 3) then (Q (some (.int ((x1 + (2 * x2)) - (x1 + (2 * x2)) / 10 * 10))) (SH L, mi, ml, MR)) else (if (x0 = 4) then (Q (some (.int (((x1 + (3 * x2)) + 1) - ((x1 + (3 * x2)) + 1) / 10 * 10))) (SH L, mi, ml, MR)) else (if (x0 = 5) then (Q (some (.int ((x1 + (x2 / 2)) - (x1 + (x2 / 2)) / 10 * 10))) (SH L, mi, ml, MR)) else (Q (some (.int ((x1 + x2) - (x1 + x2) / 10 * 10))) (SH L, mi, ml, MR)))))) := by
  rw [Xm_ent (n := 3) (loc := [.int x0, .int x1, .int x2]) (by decide +kernel) rfl]
  refine (R_pure0 (ins := .iload_n 0) (len := 1) (loc' := [.int x0, .int x1, .int x2]) (st' := [.int x0]) (by decide +kernel) (fun _ => rfl)).trans ?_
  refine (R_switch (df := 73) (lo := 1) (hi := 5) (offs := #[35, 73, 55, 44, 64]) (len := 35) (l0 := 1) (dt := 74) (ts := [36, 74, 56, 45, 65]) (by decide +kernel) (by decide +kernel)).trans ?_
  refine ite_congr rfl (fun c0 => ?_) (fun c0 => ?_)
  · refine (R_pure0 (ins := .iload_n 1) (len := 1) (loc' := [.int x0, .int x1, .int x2]) (st' := [.int x1]) (by decide +kernel) (fun _ => rfl)).trans ?_
    refine (R_iconst (n := 3) (v := 3) (by decide +kernel) (by decide +kernel)).trans ?_
    refine (R_pure0 (ins := .iload_n 2) (len := 1) (loc' := [.int x0, .int x1, .int x2]) (st' := [.int x2, .int 3, .int x1]) (by decide +kernel) (fun _ => rfl)).trans ?_
    refine (R_pure0 (ins := .imul) (len := 1) (loc' := [.int x0, .int x1, .int x2]) (st' := [.int (3 * x2), .int x1]) (by decide +kernel) (fun _ => rfl)).trans ?_
    refine (R_pure0 (ins := .iadd) (len := 1) (loc' := [.int x0, .int x1, .int x2]) (st' := [.int (x1 + (3 * x2))]) (by decide +kernel) (fun _ => rfl)).trans ?_
    refine (R_bipush (n := 10) (v := 10) (by decide +kernel) (by decide +kernel)).trans ?_
    refine (R_irem (x := (x1 + (3 * x2))) (y := 10) (by decide +kernel) (by decide)).trans ?_
    exact R_ireturn (by decide +kernel) (by decide +kernel)
  · refine ite_congr rfl (fun c1 => ?_) (fun c1 => ?_)
    · refine (R_pure0 (ins := .iload_n 1) (len := 1) (loc' := [.int x0, .int x1, .int x2]) (st' := [.int x1]) (by decide +kernel) (fun _ => rfl)).trans ?_
      refine (R_pure0 (ins := .iload_n 2) (len := 1) (loc' := [.int x0, .int x1, .int x2]) (st' := [.int x2, .int x1]) (by decide +kernel) (fun _ => rfl)).trans ?_
      refine (R_pure0 (ins := .iadd) (len := 1) (loc' := [.int x0, .int x1, .int x2]) (st' := [.int (x1 + x2)]) (by decide +kernel) (fun _ => rfl)).trans ?_
      refine (R_bipush (n := 10) (v := 10) (by decide +kernel) (by decide +kernel)).trans ?_
      refine (R_irem (x := (x1 + x2)) (y := 10) (by decide +kernel) (by decide)).trans ?_
      exact R_ireturn (by decide +kernel) (by decide +kernel)
    · refine ite_congr rfl (fun c2 => ?_) (fun c2 => ?_)
      · refine (R_pure0 (ins := .iload_n 1) (len := 1) (loc' := [.int x0, .int x1, .int x2]) (st' := [.int x1]) (by decide +kernel) (fun _ => rfl)).trans ?_
        refine (R_iconst (n := 2) (v := 2) (by decide +kernel) (by decide +kernel)).trans ?_
        refine (R_pure0 (ins := .iload_n 2) (len := 1) (loc' := [.int x0, .int x1, .int x2]) (st' := [.int x2, .int 2, .int x1]) (by decide +kernel) (fun _ => rfl)).trans ?_
        refine (R_pure0 (ins := .imul) (len := 1) (loc' := [.int x0, .int x1, .int x2]) (st' := [.int (2 * x2), .int x1]) (by decide +kernel) (fun _ => rfl)).trans ?_
        refine (R_pure0 (ins := .iadd) (len := 1) (loc' := [.int x0, .int x1, .int x2]) (st' := [.int (x1 + (2 * x2))]) (by decide +kernel) (fun _ => rfl)).trans ?_
        refine (R_bipush (n := 10) (v := 10) (by decide +kernel) (by decide +kernel)).trans ?_
        refine (R_irem (x := (x1 + (2 * x2))) (y := 10) (by decide +kernel) (by decide)).trans ?_
        exact R_ireturn (by decide +kernel) (by decide +kernel)
      · refine ite_congr rfl (fun c3 => ?_) (fun c3 => ?_)
        · refine (R_pure0 (ins := .iload_n 1) (len := 1) (loc' := [.int x0, .int x1, .int x2]) (st' := [.int x1]) (by decide +kernel) (fun _ => rfl)).trans ?_
          refine (R_iconst (n := 3) (v := 3) (by decide +kernel) (by decide +kernel)).trans ?_
          refine (R_pure0 (ins := .iload_n 2) (len := 1) (loc' := [.int x0, .int x1, .int x2]) (st' := [.int x2, .int 3, .int x1]) (by decide +kernel) (fun _ => rfl)).trans ?_
          refine (R_pure0 (ins := .imul) (len := 1) (loc' := [.int x0, .int x1, .int x2]) (st' := [.int (3 * x2), .int x1]) (by decide +kernel) (fun _ => rfl)).trans ?_
          refine (R_pure0 (ins := .iadd) (len := 1) (loc' := [.int x0, .int x1, .int x2]) (st' := [.int (x1 + (3 * x2))]) (by decide +kernel) (fun _ => rfl)).trans ?_
          refine (R_iconst (n := 1) (v := 1) (by decide +kernel) (by decide +kernel)).trans ?_
          refine (R_pure0 (ins := .iadd) (len := 1) (loc' := [.int x0, .int x1, .int x2]) (st' := [.int ((x1 + (3 * x2)) + 1)]) (by decide +kernel) (fun _ => rfl)).trans ?_
          refine (R_bipush (n := 10) (v := 10) (by decide +kernel) (by decide +kernel)).trans ?_
          refine (R_irem (x := ((x1 + (3 * x2)) + 1)) (y := 10) (by decide +kernel) (by decide)).trans ?_
          exact R_ireturn (by decide +kernel) (by decide +kernel)
        · refine ite_congr rfl (fun c4 => ?_) (fun c4 => ?_)
          · refine (R_pure0 (ins := .iload_n 1) (len := 1) (loc' := [.int x0, .int x1, .int x2]) (st' := [.int x1]) (by decide +kernel) (fun _ => rfl)).trans ?_
            refine (R_pure0 (ins := .iload_n 2) (len := 1) (loc' := [.int x0, .int x1, .int x2]) (st' := [.int x2, .int x1]) (by decide +kernel) (fun _ => rfl)).trans ?_
            refine (R_iconst (n := 2) (v := 2) (by decide +kernel) (by decide +kernel)).trans ?_
            refine (R_idiv (x := x2) (y := 2) (by decide +kernel) (by decide)).trans ?_
            refine (R_pure0 (ins := .iadd) (len := 1) (loc' := [.int x0, .int x1, .int x2]) (st' := [.int (x1 + (x2 / 2))]) (by decide +kernel) (fun _ => rfl)).trans ?_
            refine (R_bipush (n := 10) (v := 10) (by decide +kernel) (by decide +kernel)).trans ?_
            refine (R_irem (x := (x1 + (x2 / 2))) (y := 10) (by decide +kernel) (by decide)).trans ?_
            exact R_ireturn (by decide +kernel) (by decide +kernel)
          · refine (R_pure0 (ins := .iload_n 1) (len := 1) (loc' := [.int x0, .int x1, .int x2]) (st' := [.int x1]) (by decide +kernel) (fun _ => rfl)).trans ?_
            refine (R_pure0 (ins := .iload_n 2) (len := 1) (loc' := [.int x0, .int x1, .int x2]) (st' := [.int x2, .int x1]) (by decide +kernel) (fun _ => rfl)).trans ?_
            refine (R_pure0 (ins := .iadd) (len := 1) (loc' := [.int x0, .int x1, .int x2]) (st' := [.int (x1 + x2)]) (by decide +kernel) (fun _ => rfl)).trans ?_
            refine (R_bipush (n := 10) (v := 10) (by decide +kernel) (by decide +kernel)).trans ?_
            refine (R_irem (x := (x1 + x2)) (y := 10) (by decide +kernel) (by decide)).trans ?_
            exact R_ireturn (by decide +kernel) (by decide +kernel)
theorem s180 {L : Nat} {mi : Nat → Nat → Int32} {ml : Nat → Nat → Int64} {d : Nat} {Q : Option Value → xM → Prop} {x1 x2 : Int32} (h1 : xin x1 6 = true) (h2 : xin x1 6 = true) : Xm 180 [.ref 68, .int x1, .int x2] (SH L, mi, ml, MR) (d + 1) Q =
    Xm 179 [.int (mi 73 x1.toNatClampNeg), .int (mi 76 x1.toNatClampNeg), .int x2] (SH L, mi, ml, MR) d (fun v μ' => X 180 16 [.ref 68, .int x1, .int x2] (v.toList ++ []) μ' (d + 1) Q) := by
  rw [Xm_ent (n := 3) (loc := [.ref 68, .int x1, .int x2]) (by decide +kernel) rfl]
  refine (R_pure0 (ins := .aload_n 0) (len := 1) (loc' := [.ref 68, .int x1, .int x2]) (st' := [.ref 68]) (by decide +kernel) (fun _ => rfl)).trans ?_
  refine (R_gr (i := 22) (ci := 10) (k := 5) (n := 33) (b := 73) (by decide +kernel) (by decide +kernel) (by decide) rfl (SH_ref (by decide +kernel))).trans ?_
  refine (R_pure0 (ins := .iload_n 1) (len := 1) (loc' := [.ref 68, .int x1, .int x2]) (st' := [.int x1, .ref 73]) (by decide +kernel) (fun _ => rfl)).trans ?_
  refine (R_iaload (kd := 100) (n := 6) (by decide +kernel) rfl (by decide) (h1)).trans ?_
  refine (R_pure0 (ins := .aload_n 0) (len := 1) (loc' := [.ref 68, .int x1, .int x2]) (st' := [.ref 68, .int (mi 73 x1.toNatClampNeg)]) (by decide +kernel) (fun _ => rfl)).trans ?_
  refine (R_gr (i := 31) (ci := 10) (k := 8) (n := 33) (b := 76) (by decide +kernel) (by decide +kernel) (by decide) rfl (SH_ref (by decide +kernel))).trans ?_
  refine (R_pure0 (ins := .iload_n 1) (len := 1) (loc' := [.ref 68, .int x1, .int x2]) (st' := [.int x1, .ref 76, .int (mi 73 x1.toNatClampNeg)]) (by decide +kernel) (fun _ => rfl)).trans ?_
  refine (R_iaload (kd := 100) (n := 6) (by decide +kernel) rfl (by decide) (h2)).trans ?_
  refine (R_pure0 (ins := .iload_n 2) (len := 1) (loc' := [.ref 68, .int x1, .int x2]) (st' := [.int x2, .int (mi 76 x1.toNatClampNeg), .int (mi 73 x1.toNatClampNeg)]) (by decide +kernel) (fun _ => rfl)).trans ?_
  refine (R_static (i := 153) (f := 179) (kd := 2) (na := 3) (ml := 3) (As := [.int (mi 73 x1.toNatClampNeg), .int (mi 76 x1.toNatClampNeg), .int x2]) (rest := []) (by decide +kernel) (by decide +kernel) (by decide) (by decide +kernel) rfl rfl (by decide +kernel) (Nat.le_of_ble_eq_true rfl)).trans ?_
  rfl
theorem s180_16 {L : Nat} {mi : Nat → Nat → Int32} {ml : Nat → Nat → Int64} {d : Nat} {Q : Option Value → xM → Prop} {x1 x2 y : Int32} : X 180 16 [.ref 68, .int x1, .int x2] [.int y] (SH L, mi, ml, MR) d Q =
    Q (some (.int y)) (SH L, mi, ml, MR) := by
  exact R_ireturn (by decide +kernel) (by decide +kernel)
theorem s181 {L : Nat} {mi : Nat → Nat → Int32} {ml : Nat → Nat → Int64} {d : Nat} {Q : Option Value → xM → Prop} {x1 x2 x3 x4 : Int32} : Xm 181 [.ref 68, .int x1, .int x2, .int x3, .int x4] (SH L, mi, ml, MR) (d + 1) Q =
    Xm 150 [.int (mi 77 (12 : Int32).toNatClampNeg), .int x1] (SH L, mi, ml, MR) d (fun v μ' => X 181 11 [.ref 68, .int x1, .int x2, .int x3, .int x4] (v.toList ++ []) μ' (d + 1) Q) := by
  rw [Xm_ent (n := 5) (loc := [.ref 68, .int x1, .int x2, .int x3, .int x4]) (by decide +kernel) rfl]
  refine (R_pure0 (ins := .aload_n 0) (len := 1) (loc' := [.ref 68, .int x1, .int x2, .int x3, .int x4]) (st' := [.ref 68]) (by decide +kernel) (fun _ => rfl)).trans ?_
  refine (R_gr (i := 34) (ci := 10) (k := 9) (n := 33) (b := 77) (by decide +kernel) (by decide +kernel) (by decide) rfl (SH_ref (by decide +kernel))).trans ?_
  refine (R_bipush (n := 12) (v := 12) (by decide +kernel) (by decide +kernel)).trans ?_
  refine (R_iaload (kd := 100) (n := 15) (by decide +kernel) rfl (by decide) (by decide)).trans ?_
  refine (R_pure0 (ins := .iload_n 1) (len := 1) (loc' := [.ref 68, .int x1, .int x2, .int x3, .int x4]) (st' := [.int x1, .int (mi 77 (12 : Int32).toNatClampNeg)]) (by decide +kernel) (fun _ => rfl)).trans ?_
  refine (R_static (i := 156) (f := 150) (kd := 2) (na := 2) (ml := 2) (As := [.int (mi 77 (12 : Int32).toNatClampNeg), .int x1]) (rest := []) (by decide +kernel) (by decide +kernel) (by decide) (by decide +kernel) rfl rfl (by decide +kernel) (Nat.le_of_ble_eq_true rfl)).trans ?_
  rfl
theorem s181_11 {L : Nat} {mi : Nat → Nat → Int32} {ml : Nat → Nat → Int64} {d : Nat} {Q : Option Value → xM → Prop} {x1 x2 x3 x4 y : Int32} : X 181 11 [.ref 68, .int x1, .int x2, .int x3, .int x4] [.int y] (SH L, mi, ml, MR) (d + 1) Q =
    if (y = 0) then (if (x2 < 9) then (Xm 177 [.ref 68, .int x1, .int x3, .int x4] (SH L, mi, ml, MR) d (fun v μ' => X 181 28 [.ref 68, .int x1, .int x2, .int x3, .int x4] (v.toList ++ []) μ' (d + 1) Q)) else (Q (some (.int 0)) (SH L, mi, ml, MR))) else (Q (some (.int 0)) (SH L, mi, ml, MR)) := by
  refine (R_if_ne (off := 42) (t := 53) (by decide +kernel) (by decide +kernel)).trans (ite_congr rfl (fun c0 => ?_) (fun c0 => ?_))
  · refine (R_pure0 (ins := .iload_n 2) (len := 1) (loc' := [.ref 68, .int x1, .int x2, .int x3, .int x4]) (st' := [.int x2]) (by decide +kernel) (fun _ => rfl)).trans ?_
    refine (R_bipush (n := 9) (v := 9) (by decide +kernel) (by decide +kernel)).trans ?_
    refine (R_icmp_ge (off := 36) (t := 53) (by decide +kernel) (by decide +kernel)).trans (ite_congr rfl (fun c1 => ?_) (fun c1 => ?_))
    · refine (R_pure0 (ins := .aload_n 0) (len := 1) (loc' := [.ref 68, .int x1, .int x2, .int x3, .int x4]) (st' := [.ref 68]) (by decide +kernel) (fun _ => rfl)).trans ?_
      refine (R_pure0 (ins := .iload_n 1) (len := 1) (loc' := [.ref 68, .int x1, .int x2, .int x3, .int x4]) (st' := [.int x1, .ref 68]) (by decide +kernel) (fun _ => rfl)).trans ?_
      refine (R_pure0 (ins := .iload_n 3) (len := 1) (loc' := [.ref 68, .int x1, .int x2, .int x3, .int x4]) (st' := [.int x3, .int x1, .ref 68]) (by decide +kernel) (fun _ => rfl)).trans ?_
      refine (R_pure0 (ins := .iload 4) (len := 2) (loc' := [.ref 68, .int x1, .int x2, .int x3, .int x4]) (st' := [.int x4, .int x3, .int x1, .ref 68]) (by decide +kernel) (fun _ => rfl)).trans ?_
      refine (R_virt (i := 150) (f := 177) (kd := 0) (na := 3) (ml := 6) (ci := 10) (n := 33) (b := 68) (As := [.int x1, .int x3, .int x4]) (rest := []) (by decide +kernel) (by decide +kernel) (by decide) (by decide +kernel) rfl (by decide +kernel) rfl rfl (by decide +kernel) (Nat.le_of_ble_eq_true rfl)).trans ?_
      rfl
    · refine (R_iconst (n := 0) (v := 0) (by decide +kernel) (by decide +kernel)).trans ?_
      exact R_zreturn (by decide +kernel) (by decide +kernel) (by decide)
  · refine (R_iconst (n := 0) (v := 0) (by decide +kernel) (by decide +kernel)).trans ?_
    exact R_zreturn (by decide +kernel) (by decide +kernel) (by decide)
theorem s181_28 {L : Nat} {mi : Nat → Nat → Int32} {ml : Nat → Nat → Int64} {d : Nat} {Q : Option Value → xM → Prop} {x1 x2 x3 x4 y : Int32} (h1 : (x2 < y) → xin x1 6 = true) : X 181 28 [.ref 68, .int x1, .int x2, .int x3, .int x4] [.int y] (SH L, mi, ml, MR) d Q =
    if (x2 < y) then (if ((mi 73 x1.toNatClampNeg) = 3) then (if ((x4 - x4 / 2 * 2) = 0) then (Q (some (.int 1)) (SH L, mi, ml, MR)) else (Q (some (.int 0)) (SH L, mi, ml, MR))) else (Q (some (.int 1)) (SH L, mi, ml, MR))) else (Q (some (.int 0)) (SH L, mi, ml, MR)) := by
  refine (R_pure0 (ins := .iload_n 2) (len := 1) (loc' := [.ref 68, .int x1, .int x2, .int x3, .int x4]) (st' := [.int x2, .int y]) (by decide +kernel) (fun _ => rfl)).trans ?_
  refine (R_icmp_le (off := 24) (t := 53) (by decide +kernel) (by decide +kernel)).trans (ite_congr rfl (fun c0 => ?_) (fun c0 => ?_))
  · refine (R_pure0 (ins := .aload_n 0) (len := 1) (loc' := [.ref 68, .int x1, .int x2, .int x3, .int x4]) (st' := [.ref 68]) (by decide +kernel) (fun _ => rfl)).trans ?_
    refine (R_gr (i := 22) (ci := 10) (k := 5) (n := 33) (b := 73) (by decide +kernel) (by decide +kernel) (by decide) rfl (SH_ref (by decide +kernel))).trans ?_
    refine (R_pure0 (ins := .iload_n 1) (len := 1) (loc' := [.ref 68, .int x1, .int x2, .int x3, .int x4]) (st' := [.int x1, .ref 73]) (by decide +kernel) (fun _ => rfl)).trans ?_
    refine (R_iaload (kd := 100) (n := 6) (by decide +kernel) rfl (by decide) (h1 c0)).trans ?_
    refine (R_iconst (n := 3) (v := 3) (by decide +kernel) (by decide +kernel)).trans ?_
    refine (R_icmp_ne (off := 10) (t := 49) (by decide +kernel) (by decide +kernel)).trans (ite_congr rfl (fun c1 => ?_) (fun c1 => ?_))
    · refine (R_pure0 (ins := .iload 4) (len := 2) (loc' := [.ref 68, .int x1, .int x2, .int x3, .int x4]) (st' := [.int x4]) (by decide +kernel) (fun _ => rfl)).trans ?_
      refine (R_iconst (n := 2) (v := 2) (by decide +kernel) (by decide +kernel)).trans ?_
      refine (R_irem (x := x4) (y := 2) (by decide +kernel) (by decide)).trans ?_
      refine (R_if_ne (off := 7) (t := 53) (by decide +kernel) (by decide +kernel)).trans (ite_congr rfl (fun c2 => ?_) (fun c2 => ?_))
      · refine (R_iconst (n := 1) (v := 1) (by decide +kernel) (by decide +kernel)).trans ?_
        refine (R_goto (off := 4) (t := 54) (by decide +kernel) (by decide +kernel)).trans ?_
        exact R_zreturn (by decide +kernel) (by decide +kernel) (by decide)
      · refine (R_iconst (n := 0) (v := 0) (by decide +kernel) (by decide +kernel)).trans ?_
        exact R_zreturn (by decide +kernel) (by decide +kernel) (by decide)
    · refine (R_iconst (n := 1) (v := 1) (by decide +kernel) (by decide +kernel)).trans ?_
      refine (R_goto (off := 4) (t := 54) (by decide +kernel) (by decide +kernel)).trans ?_
      exact R_zreturn (by decide +kernel) (by decide +kernel) (by decide)
  · refine (R_iconst (n := 0) (v := 0) (by decide +kernel) (by decide +kernel)).trans ?_
    exact R_zreturn (by decide +kernel) (by decide +kernel) (by decide)
theorem s182 {L : Nat} {mi : Nat → Nat → Int32} {ml : Nat → Nat → Int64} {d : Nat} {Q : Option Value → xM → Prop} {x1 x2 : Int32} (h1 : xin (0 + x1) 15 = true) : Xm 182 [.ref 68, .int x1, .int x2] (SH L, mi, ml, MR) (d + 1) Q =
    Xm 181 [.ref 68, .int x1, .int x2, .int (mi 77 (0 + x1).toNatClampNeg), .int (mi 77 (13 : Int32).toNatClampNeg)] (SH L, mi, ml, MR) d (fun v μ' => X 182 21 [.ref 68, .int x1, .int x2] (v.toList ++ []) μ' (d + 1) Q) := by
  rw [Xm_ent (n := 3) (loc := [.ref 68, .int x1, .int x2]) (by decide +kernel) rfl]
  refine (R_pure0 (ins := .aload_n 0) (len := 1) (loc' := [.ref 68, .int x1, .int x2]) (st' := [.ref 68]) (by decide +kernel) (fun _ => rfl)).trans ?_
  refine (R_pure0 (ins := .iload_n 1) (len := 1) (loc' := [.ref 68, .int x1, .int x2]) (st' := [.int x1, .ref 68]) (by decide +kernel) (fun _ => rfl)).trans ?_
  refine (R_pure0 (ins := .iload_n 2) (len := 1) (loc' := [.ref 68, .int x1, .int x2]) (st' := [.int x2, .int x1, .ref 68]) (by decide +kernel) (fun _ => rfl)).trans ?_
  refine (R_pure0 (ins := .aload_n 0) (len := 1) (loc' := [.ref 68, .int x1, .int x2]) (st' := [.ref 68, .int x2, .int x1, .ref 68]) (by decide +kernel) (fun _ => rfl)).trans ?_
  refine (R_gr (i := 34) (ci := 10) (k := 9) (n := 33) (b := 77) (by decide +kernel) (by decide +kernel) (by decide) rfl (SH_ref (by decide +kernel))).trans ?_
  refine (R_iconst (n := 0) (v := 0) (by decide +kernel) (by decide +kernel)).trans ?_
  refine (R_pure0 (ins := .iload_n 1) (len := 1) (loc' := [.ref 68, .int x1, .int x2]) (st' := [.int x1, .int 0, .ref 77, .int x2, .int x1, .ref 68]) (by decide +kernel) (fun _ => rfl)).trans ?_
  refine (R_pure0 (ins := .iadd) (len := 1) (loc' := [.ref 68, .int x1, .int x2]) (st' := [.int (0 + x1), .ref 77, .int x2, .int x1, .ref 68]) (by decide +kernel) (fun _ => rfl)).trans ?_
  refine (R_iaload (kd := 100) (n := 15) (by decide +kernel) rfl (by decide) (h1)).trans ?_
  refine (R_pure0 (ins := .aload_n 0) (len := 1) (loc' := [.ref 68, .int x1, .int x2]) (st' := [.ref 68, .int (mi 77 (0 + x1).toNatClampNeg), .int x2, .int x1, .ref 68]) (by decide +kernel) (fun _ => rfl)).trans ?_
  refine (R_gr (i := 34) (ci := 10) (k := 9) (n := 33) (b := 77) (by decide +kernel) (by decide +kernel) (by decide) rfl (SH_ref (by decide +kernel))).trans ?_
  refine (R_bipush (n := 13) (v := 13) (by decide +kernel) (by decide +kernel)).trans ?_
  refine (R_iaload (kd := 100) (n := 15) (by decide +kernel) rfl (by decide) (by decide)).trans ?_
  refine (R_virt (i := 159) (f := 181) (kd := 0) (na := 4) (ml := 5) (ci := 10) (n := 33) (b := 68) (As := [.int x1, .int x2, .int (mi 77 (0 + x1).toNatClampNeg), .int (mi 77 (13 : Int32).toNatClampNeg)]) (rest := []) (by decide +kernel) (by decide +kernel) (by decide) (by decide +kernel) rfl (by decide +kernel) rfl rfl (by decide +kernel) (Nat.le_of_ble_eq_true rfl)).trans ?_
  rfl
theorem s182_21 {L : Nat} {mi : Nat → Nat → Int32} {ml : Nat → Nat → Int64} {d : Nat} {Q : Option Value → xM → Prop} {x1 x2 y : Int32} (h1 : (y = 0 ∨ y = 1)) : X 182 21 [.ref 68, .int x1, .int x2] [.int y] (SH L, mi, ml, MR) d Q =
    Q (some (.int y)) (SH L, mi, ml, MR) := by
  exact R_zreturn (by decide +kernel) (by decide +kernel) (h1)
theorem s183 {L : Nat} {mi : Nat → Nat → Int32} {ml : Nat → Nat → Int64} {d : Nat} {Q : Option Value → xM → Prop} {x1 : Int32} (h1 : xin (6 + x1) 15 = true) : Xm 183 [.ref 68, .int x1] (SH L, mi, ml, MR) (d + 1) Q =
    Xm 182 [.ref 68, .int x1, .int (mi 77 (6 + x1).toNatClampNeg)] (SH L, mi, ml, MR) d (fun v μ' => X 183 14 [.ref 68, .int x1] (v.toList ++ []) μ' (d + 1) Q) := by
  rw [Xm_ent (n := 2) (loc := [.ref 68, .int x1]) (by decide +kernel) rfl]
  refine (R_pure0 (ins := .aload_n 0) (len := 1) (loc' := [.ref 68, .int x1]) (st' := [.ref 68]) (by decide +kernel) (fun _ => rfl)).trans ?_
  refine (R_pure0 (ins := .iload_n 1) (len := 1) (loc' := [.ref 68, .int x1]) (st' := [.int x1, .ref 68]) (by decide +kernel) (fun _ => rfl)).trans ?_
  refine (R_pure0 (ins := .aload_n 0) (len := 1) (loc' := [.ref 68, .int x1]) (st' := [.ref 68, .int x1, .ref 68]) (by decide +kernel) (fun _ => rfl)).trans ?_
  refine (R_gr (i := 34) (ci := 10) (k := 9) (n := 33) (b := 77) (by decide +kernel) (by decide +kernel) (by decide) rfl (SH_ref (by decide +kernel))).trans ?_
  refine (R_bipush (n := 6) (v := 6) (by decide +kernel) (by decide +kernel)).trans ?_
  refine (R_pure0 (ins := .iload_n 1) (len := 1) (loc' := [.ref 68, .int x1]) (st' := [.int x1, .int 6, .ref 77, .int x1, .ref 68]) (by decide +kernel) (fun _ => rfl)).trans ?_
  refine (R_pure0 (ins := .iadd) (len := 1) (loc' := [.ref 68, .int x1]) (st' := [.int (6 + x1), .ref 77, .int x1, .ref 68]) (by decide +kernel) (fun _ => rfl)).trans ?_
  refine (R_iaload (kd := 100) (n := 15) (by decide +kernel) rfl (by decide) (h1)).trans ?_
  refine (R_virt (i := 163) (f := 182) (kd := 0) (na := 2) (ml := 3) (ci := 10) (n := 33) (b := 68) (As := [.int x1, .int (mi 77 (6 + x1).toNatClampNeg)]) (rest := []) (by decide +kernel) (by decide +kernel) (by decide) (by decide +kernel) rfl (by decide +kernel) rfl rfl (by decide +kernel) (Nat.le_of_ble_eq_true rfl)).trans ?_
  rfl
theorem s183_14 {L : Nat} {mi : Nat → Nat → Int32} {ml : Nat → Nat → Int64} {d : Nat} {Q : Option Value → xM → Prop} {x1 y : Int32} (h1 : (y = 0 ∨ y = 1)) : X 183 14 [.ref 68, .int x1] [.int y] (SH L, mi, ml, MR) d Q =
    Q (some (.int y)) (SH L, mi, ml, MR) := by
  exact R_zreturn (by decide +kernel) (by decide +kernel) (h1)
theorem s184 {L : Nat} {mi : Nat → Nat → Int32} {ml : Nat → Nat → Int64} {d : Nat} {Q : Option Value → xM → Prop} {x1 x2 : Int32} (h1 : (x2 = 0) → xin x1 6 = true) (h2 : ¬ (x2 = 0) → (x2 = 1) → xin x1 6 = true) (h3 : ¬ (x2 = 0) → ¬ (x2 = 1) → (x2 = 2) → xin x1 6 = true) (h4 : ¬ (x2 = 0) → ¬ (x2 = 1) → ¬ (x2 = 2) → (x2 = 3) → xin x1 6 = true) (h5 : ¬ (x2 = 0) → ¬ (x2 = 1) → ¬ (x2 = 2) → ¬ (x2 = 3) → (x2 = 4) → xin (0 + x1) 15 = true) (h6 : ¬ (x2 = 0) → ¬ (x2 = 1) → ¬ (x2 = 2) → ¬ (x2 = 3) → ¬ (x2 = 4) → (x2 = 5) → xin (6 + x1) 15 = true) : Xm 184 [.ref 68, .int x1, .int x2] (SH L, mi, ml, MR) (d + 1) Q =
    if (x2 = 0) then (Q (some (.int (mi 73 x1.toNatClampNeg))) (SH L, mi, ml, MR)) else (if (x2 = 1) then (Q (some (.int (mi 74 x1.toNatClampNeg))) (SH L, mi, ml, MR)) else (if (x2 = 2) then (Q (some (.int (mi 75 x1.toNatClampNeg))) (SH L, mi, ml, MR)) else (if (x2 = 3) then (Q (some (.int (mi 76 x1.toNatClampNeg))) (SH L, mi, ml, MR)) else (if (x2 = 4) then (Q (some (.int (mi 77 (0 + x1).toNatClampNeg))) (SH L, mi, ml, MR)) else (if (x2 = 5) then (Q (some (.int (mi 77 (6 + x1).toNatClampNeg))) (SH L, mi, ml, MR)) else (if (x2 = 6) then (Xm 178 [.ref 68, .int x1] (SH L, mi, ml, MR) d (fun v μ' => X 184 96 [.ref 68, .int x1, .int x2] (v.toList ++ []) μ' (d + 1) Q)) else (Xm 150 [.int (mi 77 (12 : Int32).toNatClampNeg), .int x1] (SH L, mi, ml, MR) d (fun v μ' => X 184 108 [.ref 68, .int x1, .int x2] (v.toList ++ []) μ' (d + 1) Q)))))))) := by
  rw [Xm_ent (n := 3) (loc := [.ref 68, .int x1, .int x2]) (by decide +kernel) rfl]
  refine (R_pure0 (ins := .iload_n 2) (len := 1) (loc' := [.ref 68, .int x1, .int x2]) (st' := [.int x2]) (by decide +kernel) (fun _ => rfl)).trans ?_
  refine (R_switch (df := 96) (lo := 0) (hi := 6) (offs := #[43, 50, 57, 64, 71, 80, 90]) (len := 43) (l0 := 0) (dt := 97) (ts := [44, 51, 58, 65, 72, 81, 91]) (by decide +kernel) (by decide +kernel)).trans ?_
  refine ite_congr rfl (fun c0 => ?_) (fun c0 => ?_)
  · refine (R_pure0 (ins := .aload_n 0) (len := 1) (loc' := [.ref 68, .int x1, .int x2]) (st' := [.ref 68]) (by decide +kernel) (fun _ => rfl)).trans ?_
    refine (R_gr (i := 22) (ci := 10) (k := 5) (n := 33) (b := 73) (by decide +kernel) (by decide +kernel) (by decide) rfl (SH_ref (by decide +kernel))).trans ?_
    refine (R_pure0 (ins := .iload_n 1) (len := 1) (loc' := [.ref 68, .int x1, .int x2]) (st' := [.int x1, .ref 73]) (by decide +kernel) (fun _ => rfl)).trans ?_
    refine (R_iaload (kd := 100) (n := 6) (by decide +kernel) rfl (by decide) (h1 c0)).trans ?_
    exact R_ireturn (by decide +kernel) (by decide +kernel)
  · refine ite_congr rfl (fun c1 => ?_) (fun c1 => ?_)
    · refine (R_pure0 (ins := .aload_n 0) (len := 1) (loc' := [.ref 68, .int x1, .int x2]) (st' := [.ref 68]) (by decide +kernel) (fun _ => rfl)).trans ?_
      refine (R_gr (i := 25) (ci := 10) (k := 6) (n := 33) (b := 74) (by decide +kernel) (by decide +kernel) (by decide) rfl (SH_ref (by decide +kernel))).trans ?_
      refine (R_pure0 (ins := .iload_n 1) (len := 1) (loc' := [.ref 68, .int x1, .int x2]) (st' := [.int x1, .ref 74]) (by decide +kernel) (fun _ => rfl)).trans ?_
      refine (R_iaload (kd := 100) (n := 6) (by decide +kernel) rfl (by decide) (h2 c0 c1)).trans ?_
      exact R_ireturn (by decide +kernel) (by decide +kernel)
    · refine ite_congr rfl (fun c2 => ?_) (fun c2 => ?_)
      · refine (R_pure0 (ins := .aload_n 0) (len := 1) (loc' := [.ref 68, .int x1, .int x2]) (st' := [.ref 68]) (by decide +kernel) (fun _ => rfl)).trans ?_
        refine (R_gr (i := 28) (ci := 10) (k := 7) (n := 33) (b := 75) (by decide +kernel) (by decide +kernel) (by decide) rfl (SH_ref (by decide +kernel))).trans ?_
        refine (R_pure0 (ins := .iload_n 1) (len := 1) (loc' := [.ref 68, .int x1, .int x2]) (st' := [.int x1, .ref 75]) (by decide +kernel) (fun _ => rfl)).trans ?_
        refine (R_iaload (kd := 100) (n := 6) (by decide +kernel) rfl (by decide) (h3 c0 c1 c2)).trans ?_
        exact R_ireturn (by decide +kernel) (by decide +kernel)
      · refine ite_congr rfl (fun c3 => ?_) (fun c3 => ?_)
        · refine (R_pure0 (ins := .aload_n 0) (len := 1) (loc' := [.ref 68, .int x1, .int x2]) (st' := [.ref 68]) (by decide +kernel) (fun _ => rfl)).trans ?_
          refine (R_gr (i := 31) (ci := 10) (k := 8) (n := 33) (b := 76) (by decide +kernel) (by decide +kernel) (by decide) rfl (SH_ref (by decide +kernel))).trans ?_
          refine (R_pure0 (ins := .iload_n 1) (len := 1) (loc' := [.ref 68, .int x1, .int x2]) (st' := [.int x1, .ref 76]) (by decide +kernel) (fun _ => rfl)).trans ?_
          refine (R_iaload (kd := 100) (n := 6) (by decide +kernel) rfl (by decide) (h4 c0 c1 c2 c3)).trans ?_
          exact R_ireturn (by decide +kernel) (by decide +kernel)
        · refine ite_congr rfl (fun c4 => ?_) (fun c4 => ?_)
          · refine (R_pure0 (ins := .aload_n 0) (len := 1) (loc' := [.ref 68, .int x1, .int x2]) (st' := [.ref 68]) (by decide +kernel) (fun _ => rfl)).trans ?_
            refine (R_gr (i := 34) (ci := 10) (k := 9) (n := 33) (b := 77) (by decide +kernel) (by decide +kernel) (by decide) rfl (SH_ref (by decide +kernel))).trans ?_
            refine (R_iconst (n := 0) (v := 0) (by decide +kernel) (by decide +kernel)).trans ?_
            refine (R_pure0 (ins := .iload_n 1) (len := 1) (loc' := [.ref 68, .int x1, .int x2]) (st' := [.int x1, .int 0, .ref 77]) (by decide +kernel) (fun _ => rfl)).trans ?_
            refine (R_pure0 (ins := .iadd) (len := 1) (loc' := [.ref 68, .int x1, .int x2]) (st' := [.int (0 + x1), .ref 77]) (by decide +kernel) (fun _ => rfl)).trans ?_
            refine (R_iaload (kd := 100) (n := 15) (by decide +kernel) rfl (by decide) (h5 c0 c1 c2 c3 c4)).trans ?_
            exact R_ireturn (by decide +kernel) (by decide +kernel)
          · refine ite_congr rfl (fun c5 => ?_) (fun c5 => ?_)
            · refine (R_pure0 (ins := .aload_n 0) (len := 1) (loc' := [.ref 68, .int x1, .int x2]) (st' := [.ref 68]) (by decide +kernel) (fun _ => rfl)).trans ?_
              refine (R_gr (i := 34) (ci := 10) (k := 9) (n := 33) (b := 77) (by decide +kernel) (by decide +kernel) (by decide) rfl (SH_ref (by decide +kernel))).trans ?_
              refine (R_bipush (n := 6) (v := 6) (by decide +kernel) (by decide +kernel)).trans ?_
              refine (R_pure0 (ins := .iload_n 1) (len := 1) (loc' := [.ref 68, .int x1, .int x2]) (st' := [.int x1, .int 6, .ref 77]) (by decide +kernel) (fun _ => rfl)).trans ?_
              refine (R_pure0 (ins := .iadd) (len := 1) (loc' := [.ref 68, .int x1, .int x2]) (st' := [.int (6 + x1), .ref 77]) (by decide +kernel) (fun _ => rfl)).trans ?_
              refine (R_iaload (kd := 100) (n := 15) (by decide +kernel) rfl (by decide) (h6 c0 c1 c2 c3 c4 c5)).trans ?_
              exact R_ireturn (by decide +kernel) (by decide +kernel)
            · refine ite_congr rfl (fun c6 => ?_) (fun c6 => ?_)
              · refine (R_pure0 (ins := .aload_n 0) (len := 1) (loc' := [.ref 68, .int x1, .int x2]) (st' := [.ref 68]) (by decide +kernel) (fun _ => rfl)).trans ?_
                refine (R_pure0 (ins := .iload_n 1) (len := 1) (loc' := [.ref 68, .int x1, .int x2]) (st' := [.int x1, .ref 68]) (by decide +kernel) (fun _ => rfl)).trans ?_
                refine (R_virt (i := 166) (f := 178) (kd := 0) (na := 1) (ml := 2) (ci := 10) (n := 33) (b := 68) (As := [.int x1]) (rest := []) (by decide +kernel) (by decide +kernel) (by decide) (by decide +kernel) rfl (by decide +kernel) rfl rfl (by decide +kernel) (Nat.le_of_ble_eq_true rfl)).trans ?_
                rfl
              · refine (R_pure0 (ins := .aload_n 0) (len := 1) (loc' := [.ref 68, .int x1, .int x2]) (st' := [.ref 68]) (by decide +kernel) (fun _ => rfl)).trans ?_
                refine (R_gr (i := 34) (ci := 10) (k := 9) (n := 33) (b := 77) (by decide +kernel) (by decide +kernel) (by decide) rfl (SH_ref (by decide +kernel))).trans ?_
                refine (R_bipush (n := 12) (v := 12) (by decide +kernel) (by decide +kernel)).trans ?_
                refine (R_iaload (kd := 100) (n := 15) (by decide +kernel) rfl (by decide) (by decide)).trans ?_
                refine (R_pure0 (ins := .iload_n 1) (len := 1) (loc' := [.ref 68, .int x1, .int x2]) (st' := [.int x1, .int (mi 77 (12 : Int32).toNatClampNeg)]) (by decide +kernel) (fun _ => rfl)).trans ?_
                refine (R_static (i := 156) (f := 150) (kd := 2) (na := 2) (ml := 2) (As := [.int (mi 77 (12 : Int32).toNatClampNeg), .int x1]) (rest := []) (by decide +kernel) (by decide +kernel) (by decide) (by decide +kernel) rfl rfl (by decide +kernel) (Nat.le_of_ble_eq_true rfl)).trans ?_
                rfl
theorem s184_96 {L : Nat} {mi : Nat → Nat → Int32} {ml : Nat → Nat → Int64} {d : Nat} {Q : Option Value → xM → Prop} {x1 x2 y : Int32} : X 184 96 [.ref 68, .int x1, .int x2] [.int y] (SH L, mi, ml, MR) d Q =
    Q (some (.int y)) (SH L, mi, ml, MR) := by
  exact R_ireturn (by decide +kernel) (by decide +kernel)
theorem s184_108 {L : Nat} {mi : Nat → Nat → Int32} {ml : Nat → Nat → Int64} {d : Nat} {Q : Option Value → xM → Prop} {x1 x2 y : Int32} : X 184 108 [.ref 68, .int x1, .int x2] [.int y] (SH L, mi, ml, MR) d Q =
    if (y = 0) then (Q (some (.int 0)) (SH L, mi, ml, MR)) else (Q (some (.int 1)) (SH L, mi, ml, MR)) := by
  refine (R_if_eq (off := 7) (t := 115) (by decide +kernel) (by decide +kernel)).trans (ite_congr rfl (fun c0 => ?_) (fun c0 => ?_))
  · refine (R_iconst (n := 0) (v := 0) (by decide +kernel) (by decide +kernel)).trans ?_
    exact R_ireturn (by decide +kernel) (by decide +kernel)
  · refine (R_iconst (n := 1) (v := 1) (by decide +kernel) (by decide +kernel)).trans ?_
    refine (R_goto (off := 4) (t := 116) (by decide +kernel) (by decide +kernel)).trans ?_
    exact R_ireturn (by decide +kernel) (by decide +kernel)
theorem s185 {L : Nat} {mi : Nat → Nat → Int32} {ml : Nat → Nat → Int64} {d : Nat} {Q : Option Value → xM → Prop} {x1 x2 : Int32} : Xm 185 [.ref 68, .int x1, .int x2] (SH L, mi, ml, MR) (d + 1) Q =
    Xm 172 [.ref 68, .int x1] (SH L, mi, ml, MR) d (fun v μ' => X 185 5 [.ref 68, .int x1, .int x2] (v.toList ++ []) μ' (d + 1) Q) := by
  rw [Xm_ent (n := 3) (loc := [.ref 68, .int x1, .int x2]) (by decide +kernel) rfl]
  refine (R_pure0 (ins := .aload_n 0) (len := 1) (loc' := [.ref 68, .int x1, .int x2]) (st' := [.ref 68]) (by decide +kernel) (fun _ => rfl)).trans ?_
  refine (R_pure0 (ins := .iload_n 1) (len := 1) (loc' := [.ref 68, .int x1, .int x2]) (st' := [.int x1, .ref 68]) (by decide +kernel) (fun _ => rfl)).trans ?_
  refine (R_virt (i := 169) (f := 172) (kd := 0) (na := 1) (ml := 2) (ci := 10) (n := 33) (b := 68) (As := [.int x1]) (rest := []) (by decide +kernel) (by decide +kernel) (by decide) (by decide +kernel) rfl (by decide +kernel) rfl rfl (by decide +kernel) (Nat.le_of_ble_eq_true rfl)).trans ?_
  rfl
theorem s185_5 {L : Nat} {mi : Nat → Nat → Int32} {ml : Nat → Nat → Int64} {d : Nat} {Q : Option Value → xM → Prop} {x1 x2 y : Int32} : X 185 5 [.ref 68, .int x1, .int x2] [.int y] (SH L, mi, ml, MR) (d + 1) Q =
    if (y = 0) then (Q (some (.int (-1))) (SH L, mi, ml, MR)) else (Xm 149 [.long x2.toInt64, .long 0, .long 7] (SH L, mi, ml, MR) d (fun v μ' => X 185 17 [.ref 68, .int x1, .int x2] (v.toList ++ []) μ' (d + 1) Q)) := by
  refine (R_if_eq (off := 28) (t := 33) (by decide +kernel) (by decide +kernel)).trans (ite_congr rfl (fun c0 => ?_) (fun c0 => ?_))
  · refine (R_iconst (n := (-1)) (v := (-1)) (by decide +kernel) (by decide +kernel)).trans ?_
    exact R_ireturn (by decide +kernel) (by decide +kernel)
  · refine (R_pure0 (ins := .iload_n 2) (len := 1) (loc' := [.ref 68, .int x1, .int x2]) (st' := [.int x2]) (by decide +kernel) (fun _ => rfl)).trans ?_
    refine (R_pure0 (ins := .i2l) (len := 1) (loc' := [.ref 68, .int x1, .int x2]) (st' := [.long x2.toInt64]) (by decide +kernel) (fun _ => rfl)).trans ?_
    refine (R_lconst (n := 0) (v := 0) (by decide +kernel) (by decide +kernel)).trans ?_
    refine (R_ldc2 (i := 172) (v := 7) (by decide +kernel) (by decide +kernel)).trans ?_
    refine (R_static (i := 87) (f := 149) (kd := 2) (na := 3) (ml := 6) (As := [.long x2.toInt64, .long 0, .long 7]) (rest := []) (by decide +kernel) (by decide +kernel) (by decide) (by decide +kernel) rfl rfl (by decide +kernel) (Nat.le_of_ble_eq_true rfl)).trans ?_
    rfl
theorem s185_17 {L : Nat} {mi : Nat → Nat → Int32} {ml : Nat → Nat → Int64} {d : Nat} {Q : Option Value → xM → Prop} {x1 x2 y : Int32} : X 185 17 [.ref 68, .int x1, .int x2] [.int y] (SH L, mi, ml, MR) (d + 1) Q =
    if (y = 0) then (Q (some (.int (-1))) (SH L, mi, ml, MR)) else (Xm 184 [.ref 68, .int x1, .int x2] (SH L, mi, ml, MR) d (fun v μ' => X 185 27 [.ref 68, .int x1, .int x2] (v.toList ++ [.ref 68]) μ' (d + 1) Q)) := by
  refine (R_if_eq (off := 16) (t := 33) (by decide +kernel) (by decide +kernel)).trans (ite_congr rfl (fun c0 => ?_) (fun c0 => ?_))
  · refine (R_iconst (n := (-1)) (v := (-1)) (by decide +kernel) (by decide +kernel)).trans ?_
    exact R_ireturn (by decide +kernel) (by decide +kernel)
  · refine (R_pure0 (ins := .aload_n 0) (len := 1) (loc' := [.ref 68, .int x1, .int x2]) (st' := [.ref 68]) (by decide +kernel) (fun _ => rfl)).trans ?_
    refine (R_pure0 (ins := .aload_n 0) (len := 1) (loc' := [.ref 68, .int x1, .int x2]) (st' := [.ref 68, .ref 68]) (by decide +kernel) (fun _ => rfl)).trans ?_
    refine (R_pure0 (ins := .iload_n 1) (len := 1) (loc' := [.ref 68, .int x1, .int x2]) (st' := [.int x1, .ref 68, .ref 68]) (by decide +kernel) (fun _ => rfl)).trans ?_
    refine (R_pure0 (ins := .iload_n 2) (len := 1) (loc' := [.ref 68, .int x1, .int x2]) (st' := [.int x2, .int x1, .ref 68, .ref 68]) (by decide +kernel) (fun _ => rfl)).trans ?_
    refine (R_virt (i := 174) (f := 184) (kd := 0) (na := 2) (ml := 3) (ci := 10) (n := 33) (b := 68) (As := [.int x1, .int x2]) (rest := [.ref 68]) (by decide +kernel) (by decide +kernel) (by decide) (by decide +kernel) rfl (by decide +kernel) rfl rfl (by decide +kernel) (Nat.le_of_ble_eq_true rfl)).trans ?_
    rfl
theorem s185_27 {L : Nat} {mi : Nat → Nat → Int32} {ml : Nat → Nat → Int64} {d : Nat} {Q : Option Value → xM → Prop} {x1 x2 y : Int32} : X 185 27 [.ref 68, .int x1, .int x2] [.int y, .ref 68] (SH L, mi, ml, MR) (d + 1) Q =
    Xm 153 [.ref 68, .int y] (SH L, mi, ml, MR) d (fun v μ' => X 185 30 [.ref 68, .int x1, .int x2] (v.toList ++ []) μ' (d + 1) Q) := by
  refine (R_virt (i := 101) (f := 153) (kd := 0) (na := 1) (ml := 2) (ci := 10) (n := 33) (b := 68) (As := [.int y]) (rest := []) (by decide +kernel) (by decide +kernel) (by decide) (by decide +kernel) rfl (by decide +kernel) rfl rfl (by decide +kernel) (Nat.le_of_ble_eq_true rfl)).trans ?_
  rfl
theorem s185_30 {L : Nat} {mi : Nat → Nat → Int32} {ml : Nat → Nat → Int64} {d : Nat} {Q : Option Value → xM → Prop} {x1 x2 y : Int32} : X 185 30 [.ref 68, .int x1, .int x2] [.int y] (SH L, mi, ml, MR) d Q =
    Q (some (.int y)) (SH L, mi, ml, MR) := by
  refine (R_goto (off := 4) (t := 34) (by decide +kernel) (by decide +kernel)).trans ?_
  exact R_ireturn (by decide +kernel) (by decide +kernel)
theorem s186 {L : Nat} {mi : Nat → Nat → Int32} {ml : Nat → Nat → Int64} {d : Nat} {Q : Option Value → xM → Prop} {x1 x2 : Int32} : Xm 186 [.ref 68, .int x1, .int x2] (SH L, mi, ml, MR) (d + 1) Q =
    Xm 172 [.ref 68, .int x1] (SH L, mi, ml, MR) d (fun v μ' => X 186 5 [.ref 68, .int x1, .int x2, xmk, xmk] (v.toList ++ []) μ' (d + 1) Q) := by
  rw [Xm_ent (n := 5) (loc := [.ref 68, .int x1, .int x2, xmk, xmk]) (by decide +kernel) rfl]
  refine (R_pure0 (ins := .aload_n 0) (len := 1) (loc' := [.ref 68, .int x1, .int x2, xmk, xmk]) (st' := [.ref 68]) (by decide +kernel) (fun _ => rfl)).trans ?_
  refine (R_pure0 (ins := .iload_n 1) (len := 1) (loc' := [.ref 68, .int x1, .int x2, xmk, xmk]) (st' := [.int x1, .ref 68]) (by decide +kernel) (fun _ => rfl)).trans ?_
  refine (R_virt (i := 169) (f := 172) (kd := 0) (na := 1) (ml := 2) (ci := 10) (n := 33) (b := 68) (As := [.int x1]) (rest := []) (by decide +kernel) (by decide +kernel) (by decide) (by decide +kernel) rfl (by decide +kernel) rfl rfl (by decide +kernel) (Nat.le_of_ble_eq_true rfl)).trans ?_
  rfl
theorem s186_5 {L : Nat} {mi : Nat → Nat → Int32} {ml : Nat → Nat → Int64} {d : Nat} {Q : Option Value → xM → Prop} {x1 x2 y : Int32} : X 186 5 [.ref 68, .int x1, .int x2, xmk, xmk] [.int y] (SH L, mi, ml, MR) (d + 1) Q =
    if (y = 0) then (Q (some (.int (-1))) (SH L, mi, ml, MR)) else (Xm 149 [.long x2.toInt64, .long 1, .long 5] (SH L, mi, ml, MR) d (fun v μ' => X 186 17 [.ref 68, .int x1, .int x2, xmk, xmk] (v.toList ++ []) μ' (d + 1) Q)) := by
  refine (R_if_eq (off := 15) (t := 20) (by decide +kernel) (by decide +kernel)).trans (ite_congr rfl (fun c0 => ?_) (fun c0 => ?_))
  · refine (R_iconst (n := (-1)) (v := (-1)) (by decide +kernel) (by decide +kernel)).trans ?_
    exact R_ireturn (by decide +kernel) (by decide +kernel)
  · refine (R_pure0 (ins := .iload_n 2) (len := 1) (loc' := [.ref 68, .int x1, .int x2, xmk, xmk]) (st' := [.int x2]) (by decide +kernel) (fun _ => rfl)).trans ?_
    refine (R_pure0 (ins := .i2l) (len := 1) (loc' := [.ref 68, .int x1, .int x2, xmk, xmk]) (st' := [.long x2.toInt64]) (by decide +kernel) (fun _ => rfl)).trans ?_
    refine (R_lconst (n := 1) (v := 1) (by decide +kernel) (by decide +kernel)).trans ?_
    refine (R_ldc2 (i := 85) (v := 5) (by decide +kernel) (by decide +kernel)).trans ?_
    refine (R_static (i := 87) (f := 149) (kd := 2) (na := 3) (ml := 6) (As := [.long x2.toInt64, .long 1, .long 5]) (rest := []) (by decide +kernel) (by decide +kernel) (by decide) (by decide +kernel) rfl rfl (by decide +kernel) (Nat.le_of_ble_eq_true rfl)).trans ?_
    rfl
theorem s186_17 {L : Nat} {mi : Nat → Nat → Int32} {ml : Nat → Nat → Int64} {d : Nat} {Q : Option Value → xM → Prop} {x1 x2 y : Int32} (h1 : ¬ (y = 0) → xin x1 6 = true) : X 186 17 [.ref 68, .int x1, .int x2, xmk, xmk] [.int y] (SH L, mi, ml, MR) (d + 1) Q =
    if (y = 0) then (Q (some (.int (-1))) (SH L, mi, ml, MR)) else (Xm 175 [.int (mi 73 x1.toNatClampNeg), .int x2] (SH L, mi, ml, MR) d (fun v μ' => X 186 32 [.ref 68, .int x1, .int x2, xmk, xmk] (v.toList ++ []) μ' (d + 1) Q)) := by
  refine (R_if_ne (off := 5) (t := 22) (by decide +kernel) (by decide +kernel)).trans (ite_congr rfl (fun c0 => ?_) (fun c0 => ?_))
  · refine (R_iconst (n := (-1)) (v := (-1)) (by decide +kernel) (by decide +kernel)).trans ?_
    exact R_ireturn (by decide +kernel) (by decide +kernel)
  · refine (R_pure0 (ins := .aload_n 0) (len := 1) (loc' := [.ref 68, .int x1, .int x2, xmk, xmk]) (st' := [.ref 68]) (by decide +kernel) (fun _ => rfl)).trans ?_
    refine (R_gr (i := 22) (ci := 10) (k := 5) (n := 33) (b := 73) (by decide +kernel) (by decide +kernel) (by decide) rfl (SH_ref (by decide +kernel))).trans ?_
    refine (R_pure0 (ins := .iload_n 1) (len := 1) (loc' := [.ref 68, .int x1, .int x2, xmk, xmk]) (st' := [.int x1, .ref 73]) (by decide +kernel) (fun _ => rfl)).trans ?_
    refine (R_iaload (kd := 100) (n := 6) (by decide +kernel) rfl (by decide) (h1 c0)).trans ?_
    refine (R_pure0 (ins := .iload_n 2) (len := 1) (loc' := [.ref 68, .int x1, .int x2, xmk, xmk]) (st' := [.int x2, .int (mi 73 x1.toNatClampNeg)]) (by decide +kernel) (fun _ => rfl)).trans ?_
    refine (R_static (i := 146) (f := 175) (kd := 2) (na := 2) (ml := 2) (As := [.int (mi 73 x1.toNatClampNeg), .int x2]) (rest := []) (by decide +kernel) (by decide +kernel) (by decide) (by decide +kernel) rfl rfl (by decide +kernel) (Nat.le_of_ble_eq_true rfl)).trans ?_
    rfl
theorem s186_32 {L : Nat} {mi : Nat → Nat → Int32} {ml : Nat → Nat → Int64} {d : Nat} {Q : Option Value → xM → Prop} {x1 x2 y : Int32} (h1 : ¬ (y = 0) → xin (0 + x1) 15 = true) : X 186 32 [.ref 68, .int x1, .int x2, xmk, xmk] [.int y] (SH L, mi, ml, MR) (d + 1) Q =
    if (y = 0) then (Xm 152 [.ref 68, .int 3] (SH L, mi, ml, MR) d (fun v μ' => X 186 40 [.ref 68, .int x1, .int x2, xmk, xmk] (v.toList ++ []) μ' (d + 1) Q)) else (Xm 176 [.ref 68, .int x1, .int (mi 77 (0 + x1).toNatClampNeg), .int (mi 77 (13 : Int32).toNatClampNeg)] (SH L, mi, ml, MR) d (fun v μ' => X 186 61 [.ref 68, .int x1, .int x2, xmk, xmk] (v.toList ++ []) μ' (d + 1) Q)) := by
  refine (R_if_ne (off := 9) (t := 41) (by decide +kernel) (by decide +kernel)).trans (ite_congr rfl (fun c0 => ?_) (fun c0 => ?_))
  · refine (R_pure0 (ins := .aload_n 0) (len := 1) (loc' := [.ref 68, .int x1, .int x2, xmk, xmk]) (st' := [.ref 68]) (by decide +kernel) (fun _ => rfl)).trans ?_
    refine (R_iconst (n := 3) (v := 3) (by decide +kernel) (by decide +kernel)).trans ?_
    refine (R_virt (i := 97) (f := 152) (kd := 0) (na := 1) (ml := 2) (ci := 10) (n := 33) (b := 68) (As := [.int 3]) (rest := []) (by decide +kernel) (by decide +kernel) (by decide) (by decide +kernel) rfl (by decide +kernel) rfl rfl (by decide +kernel) (Nat.le_of_ble_eq_true rfl)).trans ?_
    rfl
  · refine (R_pure0 (ins := .aload_n 0) (len := 1) (loc' := [.ref 68, .int x1, .int x2, xmk, xmk]) (st' := [.ref 68]) (by decide +kernel) (fun _ => rfl)).trans ?_
    refine (R_pure0 (ins := .iload_n 1) (len := 1) (loc' := [.ref 68, .int x1, .int x2, xmk, xmk]) (st' := [.int x1, .ref 68]) (by decide +kernel) (fun _ => rfl)).trans ?_
    refine (R_pure0 (ins := .aload_n 0) (len := 1) (loc' := [.ref 68, .int x1, .int x2, xmk, xmk]) (st' := [.ref 68, .int x1, .ref 68]) (by decide +kernel) (fun _ => rfl)).trans ?_
    refine (R_gr (i := 34) (ci := 10) (k := 9) (n := 33) (b := 77) (by decide +kernel) (by decide +kernel) (by decide) rfl (SH_ref (by decide +kernel))).trans ?_
    refine (R_iconst (n := 0) (v := 0) (by decide +kernel) (by decide +kernel)).trans ?_
    refine (R_pure0 (ins := .iload_n 1) (len := 1) (loc' := [.ref 68, .int x1, .int x2, xmk, xmk]) (st' := [.int x1, .int 0, .ref 77, .int x1, .ref 68]) (by decide +kernel) (fun _ => rfl)).trans ?_
    refine (R_pure0 (ins := .iadd) (len := 1) (loc' := [.ref 68, .int x1, .int x2, xmk, xmk]) (st' := [.int (0 + x1), .ref 77, .int x1, .ref 68]) (by decide +kernel) (fun _ => rfl)).trans ?_
    refine (R_iaload (kd := 100) (n := 15) (by decide +kernel) rfl (by decide) (h1 c0)).trans ?_
    refine (R_pure0 (ins := .aload_n 0) (len := 1) (loc' := [.ref 68, .int x1, .int x2, xmk, xmk]) (st' := [.ref 68, .int (mi 77 (0 + x1).toNatClampNeg), .int x1, .ref 68]) (by decide +kernel) (fun _ => rfl)).trans ?_
    refine (R_gr (i := 34) (ci := 10) (k := 9) (n := 33) (b := 77) (by decide +kernel) (by decide +kernel) (by decide) rfl (SH_ref (by decide +kernel))).trans ?_
    refine (R_bipush (n := 13) (v := 13) (by decide +kernel) (by decide +kernel)).trans ?_
    refine (R_iaload (kd := 100) (n := 15) (by decide +kernel) rfl (by decide) (by decide)).trans ?_
    refine (R_virt (i := 139) (f := 176) (kd := 0) (na := 3) (ml := 5) (ci := 10) (n := 33) (b := 68) (As := [.int x1, .int (mi 77 (0 + x1).toNatClampNeg), .int (mi 77 (13 : Int32).toNatClampNeg)]) (rest := []) (by decide +kernel) (by decide +kernel) (by decide) (by decide +kernel) rfl (by decide +kernel) rfl rfl (by decide +kernel) (Nat.le_of_ble_eq_true rfl)).trans ?_
    rfl
theorem s186_40 {L : Nat} {mi : Nat → Nat → Int32} {ml : Nat → Nat → Int64} {d : Nat} {Q : Option Value → xM → Prop} {x1 x2 y : Int32} : X 186 40 [.ref 68, .int x1, .int x2, xmk, xmk] [.int y] (SH L, mi, ml, MR) d Q =
    Q (some (.int y)) (SH L, mi, ml, MR) := by
  exact R_ireturn (by decide +kernel) (by decide +kernel)
theorem s186_61 {L : Nat} {mi : Nat → Nat → Int32} {ml : Nat → Nat → Int64} {d : Nat} {Q : Option Value → xM → Prop} {x1 x2 y : Int32} (h1 : xin x1 6 = true) (h2 : ¬ (mi 75 x1.toNatClampNeg) = 0) : X 186 61 [.ref 68, .int x1, .int x2, xmk, xmk] [.int y] (SH L, mi, ml, MR) (d + 1) Q =
    Xm 174 [.int (y / (mi 75 x1.toNatClampNeg))] (SH L, mi, ml, MR) d (fun v μ' => X 186 71 [.ref 68, .int x1, .int x2, xmk, xmk] (v.toList ++ []) μ' (d + 1) Q) := by
  refine (R_pure0 (ins := .aload_n 0) (len := 1) (loc' := [.ref 68, .int x1, .int x2, xmk, xmk]) (st' := [.ref 68, .int y]) (by decide +kernel) (fun _ => rfl)).trans ?_
  refine (R_gr (i := 28) (ci := 10) (k := 7) (n := 33) (b := 75) (by decide +kernel) (by decide +kernel) (by decide) rfl (SH_ref (by decide +kernel))).trans ?_
  refine (R_pure0 (ins := .iload_n 1) (len := 1) (loc' := [.ref 68, .int x1, .int x2, xmk, xmk]) (st' := [.int x1, .ref 75, .int y]) (by decide +kernel) (fun _ => rfl)).trans ?_
  refine (R_iaload (kd := 100) (n := 6) (by decide +kernel) rfl (by decide) (h1)).trans ?_
  refine (R_idiv (x := y) (y := (mi 75 x1.toNatClampNeg)) (by decide +kernel) (h2)).trans ?_
  refine (R_static (i := 143) (f := 174) (kd := 2) (na := 1) (ml := 1) (As := [.int (y / (mi 75 x1.toNatClampNeg))]) (rest := []) (by decide +kernel) (by decide +kernel) (by decide) (by decide +kernel) rfl rfl (by decide +kernel) (Nat.le_of_ble_eq_true rfl)).trans ?_
  rfl
theorem s186_71 {L : Nat} {mi : Nat → Nat → Int32} {ml : Nat → Nat → Int64} {d : Nat} {Q : Option Value → xM → Prop} {x1 x2 y : Int32} (h1 : xin (6 + x1) 15 = true) : X 186 71 [.ref 68, .int x1, .int x2, xmk, xmk] [.int y] (SH L, mi, ml, MR) (d + 1) Q =
    if (x2 = 1) then (Xm 178 [.ref 68, .int x1] (SH L, mi, ml, MR) d (fun v μ' => X 186 121 [.ref 68, .int x1, .int x2, .int y, .int (mi 77 (6 + x1).toNatClampNeg)] (v.toList ++ []) μ' (d + 1) Q)) else (if (x2 = 2) then (Xm 178 [.ref 68, .int x1] (SH L, mi, ml, MR) d (fun v μ' => X 186 130 [.ref 68, .int x1, .int x2, .int y, .int (mi 77 (6 + x1).toNatClampNeg)] (v.toList ++ [.int y]) μ' (d + 1) Q)) else (if (x2 = 3) then (Q (some (.int ((mi 77 (13 : Int32).toNatClampNeg) - (mi 77 (13 : Int32).toNatClampNeg) / 2 * 2))) (SH L, mi, ml, MR)) else (if (x2 = 4) then (Xm 180 [.ref 68, .int x1, .int 0] (SH L, mi, ml, MR) d (fun v μ' => X 186 148 [.ref 68, .int x1, .int x2, .int y, .int (mi 77 (6 + x1).toNatClampNeg)] (v.toList ++ []) μ' (d + 1) Q)) else (Xm 149 [.long (mi 77 (6 + x1).toNatClampNeg).toInt64, .long 1, .long 8] (SH L, mi, ml, MR) d (fun v μ' => X 186 174 [.ref 68, .int x1, .int x2, .int y, .int (mi 77 (6 + x1).toNatClampNeg)] (v.toList ++ []) μ' (d + 1) Q))))) := by
  refine (R_pure0 (ins := .istore_n 3) (len := 1) (loc' := [.ref 68, .int x1, .int x2, .int y, xmk]) (st' := []) (by decide +kernel) (fun _ => rfl)).trans ?_
  refine (R_pure0 (ins := .aload_n 0) (len := 1) (loc' := [.ref 68, .int x1, .int x2, .int y, xmk]) (st' := [.ref 68]) (by decide +kernel) (fun _ => rfl)).trans ?_
  refine (R_gr (i := 34) (ci := 10) (k := 9) (n := 33) (b := 77) (by decide +kernel) (by decide +kernel) (by decide) rfl (SH_ref (by decide +kernel))).trans ?_
  refine (R_bipush (n := 6) (v := 6) (by decide +kernel) (by decide +kernel)).trans ?_
  refine (R_pure0 (ins := .iload_n 1) (len := 1) (loc' := [.ref 68, .int x1, .int x2, .int y, xmk]) (st' := [.int x1, .int 6, .ref 77]) (by decide +kernel) (fun _ => rfl)).trans ?_
  refine (R_pure0 (ins := .iadd) (len := 1) (loc' := [.ref 68, .int x1, .int x2, .int y, xmk]) (st' := [.int (6 + x1), .ref 77]) (by decide +kernel) (fun _ => rfl)).trans ?_
  refine (R_iaload (kd := 100) (n := 15) (by decide +kernel) rfl (by decide) (h1)).trans ?_
  refine (R_pure0 (ins := .istore 4) (len := 2) (loc' := [.ref 68, .int x1, .int x2, .int y, .int (mi 77 (6 + x1).toNatClampNeg)]) (st' := []) (by decide +kernel) (fun _ => rfl)).trans ?_
  refine (R_pure0 (ins := .iload_n 2) (len := 1) (loc' := [.ref 68, .int x1, .int x2, .int y, .int (mi 77 (6 + x1).toNatClampNeg)]) (st' := [.int x2]) (by decide +kernel) (fun _ => rfl)).trans ?_
  refine (R_switch (df := 80) (lo := 1) (hi := 4) (offs := #[32, 40, 48, 58]) (len := 32) (l0 := 1) (dt := 164) (ts := [116, 124, 132, 142]) (by decide +kernel) (by decide +kernel)).trans ?_
  refine ite_congr rfl (fun c0 => ?_) (fun c0 => ?_)
  · refine (R_pure0 (ins := .aload_n 0) (len := 1) (loc' := [.ref 68, .int x1, .int x2, .int y, .int (mi 77 (6 + x1).toNatClampNeg)]) (st' := [.ref 68]) (by decide +kernel) (fun _ => rfl)).trans ?_
    refine (R_pure0 (ins := .iload_n 1) (len := 1) (loc' := [.ref 68, .int x1, .int x2, .int y, .int (mi 77 (6 + x1).toNatClampNeg)]) (st' := [.int x1, .ref 68]) (by decide +kernel) (fun _ => rfl)).trans ?_
    refine (R_virt (i := 166) (f := 178) (kd := 0) (na := 1) (ml := 2) (ci := 10) (n := 33) (b := 68) (As := [.int x1]) (rest := []) (by decide +kernel) (by decide +kernel) (by decide) (by decide +kernel) rfl (by decide +kernel) rfl rfl (by decide +kernel) (Nat.le_of_ble_eq_true rfl)).trans ?_
    rfl
  · refine ite_congr rfl (fun c1 => ?_) (fun c1 => ?_)
    · refine (R_pure0 (ins := .iload_n 3) (len := 1) (loc' := [.ref 68, .int x1, .int x2, .int y, .int (mi 77 (6 + x1).toNatClampNeg)]) (st' := [.int y]) (by decide +kernel) (fun _ => rfl)).trans ?_
      refine (R_pure0 (ins := .aload_n 0) (len := 1) (loc' := [.ref 68, .int x1, .int x2, .int y, .int (mi 77 (6 + x1).toNatClampNeg)]) (st' := [.ref 68, .int y]) (by decide +kernel) (fun _ => rfl)).trans ?_
      refine (R_pure0 (ins := .iload_n 1) (len := 1) (loc' := [.ref 68, .int x1, .int x2, .int y, .int (mi 77 (6 + x1).toNatClampNeg)]) (st' := [.int x1, .ref 68, .int y]) (by decide +kernel) (fun _ => rfl)).trans ?_
      refine (R_virt (i := 166) (f := 178) (kd := 0) (na := 1) (ml := 2) (ci := 10) (n := 33) (b := 68) (As := [.int x1]) (rest := [.int y]) (by decide +kernel) (by decide +kernel) (by decide) (by decide +kernel) rfl (by decide +kernel) rfl rfl (by decide +kernel) (Nat.le_of_ble_eq_true rfl)).trans ?_
      rfl
    · refine ite_congr rfl (fun c2 => ?_) (fun c2 => ?_)
      · refine (R_pure0 (ins := .aload_n 0) (len := 1) (loc' := [.ref 68, .int x1, .int x2, .int y, .int (mi 77 (6 + x1).toNatClampNeg)]) (st' := [.ref 68]) (by decide +kernel) (fun _ => rfl)).trans ?_
        refine (R_gr (i := 34) (ci := 10) (k := 9) (n := 33) (b := 77) (by decide +kernel) (by decide +kernel) (by decide) rfl (SH_ref (by decide +kernel))).trans ?_
        refine (R_bipush (n := 13) (v := 13) (by decide +kernel) (by decide +kernel)).trans ?_
        refine (R_iaload (kd := 100) (n := 15) (by decide +kernel) rfl (by decide) (by decide)).trans ?_
        refine (R_iconst (n := 2) (v := 2) (by decide +kernel) (by decide +kernel)).trans ?_
        refine (R_irem (x := (mi 77 (13 : Int32).toNatClampNeg)) (y := 2) (by decide +kernel) (by decide)).trans ?_
        exact R_ireturn (by decide +kernel) (by decide +kernel)
      · refine ite_congr rfl (fun c3 => ?_) (fun c3 => ?_)
        · refine (R_pure0 (ins := .aload_n 0) (len := 1) (loc' := [.ref 68, .int x1, .int x2, .int y, .int (mi 77 (6 + x1).toNatClampNeg)]) (st' := [.ref 68]) (by decide +kernel) (fun _ => rfl)).trans ?_
          refine (R_pure0 (ins := .iload_n 1) (len := 1) (loc' := [.ref 68, .int x1, .int x2, .int y, .int (mi 77 (6 + x1).toNatClampNeg)]) (st' := [.int x1, .ref 68]) (by decide +kernel) (fun _ => rfl)).trans ?_
          refine (R_iconst (n := 0) (v := 0) (by decide +kernel) (by decide +kernel)).trans ?_
          refine (R_virt (i := 178) (f := 180) (kd := 0) (na := 2) (ml := 3) (ci := 10) (n := 33) (b := 68) (As := [.int x1, .int 0]) (rest := []) (by decide +kernel) (by decide +kernel) (by decide) (by decide +kernel) rfl (by decide +kernel) rfl rfl (by decide +kernel) (Nat.le_of_ble_eq_true rfl)).trans ?_
          rfl
        · refine (R_pure0 (ins := .iload 4) (len := 2) (loc' := [.ref 68, .int x1, .int x2, .int y, .int (mi 77 (6 + x1).toNatClampNeg)]) (st' := [.int (mi 77 (6 + x1).toNatClampNeg)]) (by decide +kernel) (fun _ => rfl)).trans ?_
          refine (R_pure0 (ins := .i2l) (len := 1) (loc' := [.ref 68, .int x1, .int x2, .int y, .int (mi 77 (6 + x1).toNatClampNeg)]) (st' := [.long (mi 77 (6 + x1).toNatClampNeg).toInt64]) (by decide +kernel) (fun _ => rfl)).trans ?_
          refine (R_lconst (n := 1) (v := 1) (by decide +kernel) (by decide +kernel)).trans ?_
          refine (R_ldc2 (i := 137) (v := 8) (by decide +kernel) (by decide +kernel)).trans ?_
          refine (R_static (i := 87) (f := 149) (kd := 2) (na := 3) (ml := 6) (As := [.long (mi 77 (6 + x1).toNatClampNeg).toInt64, .long 1, .long 8]) (rest := []) (by decide +kernel) (by decide +kernel) (by decide) (by decide +kernel) rfl rfl (by decide +kernel) (Nat.le_of_ble_eq_true rfl)).trans ?_
          rfl
theorem s186_121 {L : Nat} {mi : Nat → Nat → Int32} {ml : Nat → Nat → Int64} {d : Nat} {Q : Option Value → xM → Prop} {x1 x2 x3 x4 y : Int32} : X 186 121 [.ref 68, .int x1, .int x2, .int x3, .int x4] [.int y] (SH L, mi, ml, MR) d Q =
    Q (some (.int (y - x3))) (SH L, mi, ml, MR) := by
  refine (R_pure0 (ins := .iload_n 3) (len := 1) (loc' := [.ref 68, .int x1, .int x2, .int x3, .int x4]) (st' := [.int x3, .int y]) (by decide +kernel) (fun _ => rfl)).trans ?_
  refine (R_pure0 (ins := .isub) (len := 1) (loc' := [.ref 68, .int x1, .int x2, .int x3, .int x4]) (st' := [.int (y - x3)]) (by decide +kernel) (fun _ => rfl)).trans ?_
  exact R_ireturn (by decide +kernel) (by decide +kernel)
theorem s186_130 {L : Nat} {mi : Nat → Nat → Int32} {ml : Nat → Nat → Int64} {d : Nat} {Q : Option Value → xM → Prop} {x1 x2 x3 x4 y z0 : Int32} : X 186 130 [.ref 68, .int x1, .int x2, .int x3, .int x4] [.int y, .int z0] (SH L, mi, ml, MR) d Q =
    Q (some (.int (z0 - y))) (SH L, mi, ml, MR) := by
  refine (R_pure0 (ins := .isub) (len := 1) (loc' := [.ref 68, .int x1, .int x2, .int x3, .int x4]) (st' := [.int (z0 - y)]) (by decide +kernel) (fun _ => rfl)).trans ?_
  exact R_ireturn (by decide +kernel) (by decide +kernel)
theorem s186_148 {L : Nat} {mi : Nat → Nat → Int32} {ml : Nat → Nat → Int64} {d : Nat} {Q : Option Value → xM → Prop} {x1 x2 x3 x4 y : Int32} (h1 : xin x1 6 = true) : X 186 148 [.ref 68, .int x1, .int x2, .int x3, .int x4] [.int y] (SH L, mi, ml, MR) (d + 1) Q =
    Xm 179 [.int 1, .int (mi 76 x1.toNatClampNeg), .int 0] (SH L, mi, ml, MR) d (fun v μ' => X 186 159 [.ref 68, .int x1, .int x2, .int x3, .int x4] (v.toList ++ [.int y]) μ' (d + 1) Q) := by
  refine (R_iconst (n := 1) (v := 1) (by decide +kernel) (by decide +kernel)).trans ?_
  refine (R_pure0 (ins := .aload_n 0) (len := 1) (loc' := [.ref 68, .int x1, .int x2, .int x3, .int x4]) (st' := [.ref 68, .int 1, .int y]) (by decide +kernel) (fun _ => rfl)).trans ?_
  refine (R_gr (i := 31) (ci := 10) (k := 8) (n := 33) (b := 76) (by decide +kernel) (by decide +kernel) (by decide) rfl (SH_ref (by decide +kernel))).trans ?_
  refine (R_pure0 (ins := .iload_n 1) (len := 1) (loc' := [.ref 68, .int x1, .int x2, .int x3, .int x4]) (st' := [.int x1, .ref 76, .int 1, .int y]) (by decide +kernel) (fun _ => rfl)).trans ?_
  refine (R_iaload (kd := 100) (n := 6) (by decide +kernel) rfl (by decide) (h1)).trans ?_
  refine (R_iconst (n := 0) (v := 0) (by decide +kernel) (by decide +kernel)).trans ?_
  refine (R_static (i := 153) (f := 179) (kd := 2) (na := 3) (ml := 3) (As := [.int 1, .int (mi 76 x1.toNatClampNeg), .int 0]) (rest := [.int y]) (by decide +kernel) (by decide +kernel) (by decide) (by decide +kernel) rfl rfl (by decide +kernel) (Nat.le_of_ble_eq_true rfl)).trans ?_
  rfl
theorem s186_174 {L : Nat} {mi : Nat → Nat → Int32} {ml : Nat → Nat → Int64} {d : Nat} {Q : Option Value → xM → Prop} {x1 x2 x3 x4 y : Int32} : X 186 174 [.ref 68, .int x1, .int x2, .int x3, .int x4] [.int y] (SH L, mi, ml, MR) (d + 1) Q =
    if (y = 0) then (Q (some (.int 0)) (SH L, mi, ml, MR)) else (Xm 180 [.ref 68, .int x1, .int x4] (SH L, mi, ml, MR) d (fun v μ' => X 186 184 [.ref 68, .int x1, .int x2, .int x3, .int x4] (v.toList ++ []) μ' (d + 1) Q)) := by
  refine (R_if_eq (off := 26) (t := 200) (by decide +kernel) (by decide +kernel)).trans (ite_congr rfl (fun c0 => ?_) (fun c0 => ?_))
  · refine (R_iconst (n := 0) (v := 0) (by decide +kernel) (by decide +kernel)).trans ?_
    exact R_ireturn (by decide +kernel) (by decide +kernel)
  · refine (R_pure0 (ins := .aload_n 0) (len := 1) (loc' := [.ref 68, .int x1, .int x2, .int x3, .int x4]) (st' := [.ref 68]) (by decide +kernel) (fun _ => rfl)).trans ?_
    refine (R_pure0 (ins := .iload_n 1) (len := 1) (loc' := [.ref 68, .int x1, .int x2, .int x3, .int x4]) (st' := [.int x1, .ref 68]) (by decide +kernel) (fun _ => rfl)).trans ?_
    refine (R_pure0 (ins := .iload 4) (len := 2) (loc' := [.ref 68, .int x1, .int x2, .int x3, .int x4]) (st' := [.int x4, .int x1, .ref 68]) (by decide +kernel) (fun _ => rfl)).trans ?_
    refine (R_virt (i := 178) (f := 180) (kd := 0) (na := 2) (ml := 3) (ci := 10) (n := 33) (b := 68) (As := [.int x1, .int x4]) (rest := []) (by decide +kernel) (by decide +kernel) (by decide) (by decide +kernel) rfl (by decide +kernel) rfl rfl (by decide +kernel) (Nat.le_of_ble_eq_true rfl)).trans ?_
    rfl
theorem s186_159 {L : Nat} {mi : Nat → Nat → Int32} {ml : Nat → Nat → Int64} {d : Nat} {Q : Option Value → xM → Prop} {x1 x2 x3 x4 y z0 : Int32} : X 186 159 [.ref 68, .int x1, .int x2, .int x3, .int x4] [.int y, .int z0] (SH L, mi, ml, MR) d Q =
    Q (some (.int ((z0 - y) + 10))) (SH L, mi, ml, MR) := by
  refine (R_pure0 (ins := .isub) (len := 1) (loc' := [.ref 68, .int x1, .int x2, .int x3, .int x4]) (st' := [.int (z0 - y)]) (by decide +kernel) (fun _ => rfl)).trans ?_
  refine (R_bipush (n := 10) (v := 10) (by decide +kernel) (by decide +kernel)).trans ?_
  refine (R_pure0 (ins := .iadd) (len := 1) (loc' := [.ref 68, .int x1, .int x2, .int x3, .int x4]) (st' := [.int ((z0 - y) + 10)]) (by decide +kernel) (fun _ => rfl)).trans ?_
  exact R_ireturn (by decide +kernel) (by decide +kernel)
theorem s186_184 {L : Nat} {mi : Nat → Nat → Int32} {ml : Nat → Nat → Int64} {d : Nat} {Q : Option Value → xM → Prop} {x1 x2 x3 x4 y : Int32} : X 186 184 [.ref 68, .int x1, .int x2, .int x3, .int x4] [.int y] (SH L, mi, ml, MR) (d + 1) Q =
    Xm 180 [.ref 68, .int x1, .int (x4 - 1)] (SH L, mi, ml, MR) d (fun v μ' => X 186 193 [.ref 68, .int x1, .int x2, .int x3, .int x4] (v.toList ++ [.int y]) μ' (d + 1) Q) := by
  refine (R_pure0 (ins := .aload_n 0) (len := 1) (loc' := [.ref 68, .int x1, .int x2, .int x3, .int x4]) (st' := [.ref 68, .int y]) (by decide +kernel) (fun _ => rfl)).trans ?_
  refine (R_pure0 (ins := .iload_n 1) (len := 1) (loc' := [.ref 68, .int x1, .int x2, .int x3, .int x4]) (st' := [.int x1, .ref 68, .int y]) (by decide +kernel) (fun _ => rfl)).trans ?_
  refine (R_pure0 (ins := .iload 4) (len := 2) (loc' := [.ref 68, .int x1, .int x2, .int x3, .int x4]) (st' := [.int x4, .int x1, .ref 68, .int y]) (by decide +kernel) (fun _ => rfl)).trans ?_
  refine (R_iconst (n := 1) (v := 1) (by decide +kernel) (by decide +kernel)).trans ?_
  refine (R_pure0 (ins := .isub) (len := 1) (loc' := [.ref 68, .int x1, .int x2, .int x3, .int x4]) (st' := [.int (x4 - 1), .int x1, .ref 68, .int y]) (by decide +kernel) (fun _ => rfl)).trans ?_
  refine (R_virt (i := 178) (f := 180) (kd := 0) (na := 2) (ml := 3) (ci := 10) (n := 33) (b := 68) (As := [.int x1, .int (x4 - 1)]) (rest := [.int y]) (by decide +kernel) (by decide +kernel) (by decide) (by decide +kernel) rfl (by decide +kernel) rfl rfl (by decide +kernel) (Nat.le_of_ble_eq_true rfl)).trans ?_
  rfl
theorem s186_193 {L : Nat} {mi : Nat → Nat → Int32} {ml : Nat → Nat → Int64} {d : Nat} {Q : Option Value → xM → Prop} {x1 x2 x3 x4 y z0 : Int32} : X 186 193 [.ref 68, .int x1, .int x2, .int x3, .int x4] [.int y, .int z0] (SH L, mi, ml, MR) d Q =
    if (z0 = y) then (Q (some (.int 1)) (SH L, mi, ml, MR)) else (Q (some (.int 0)) (SH L, mi, ml, MR)) := by
  refine (R_icmp_ne (off := 7) (t := 200) (by decide +kernel) (by decide +kernel)).trans (ite_congr rfl (fun c0 => ?_) (fun c0 => ?_))
  · refine (R_iconst (n := 1) (v := 1) (by decide +kernel) (by decide +kernel)).trans ?_
    refine (R_goto (off := 4) (t := 201) (by decide +kernel) (by decide +kernel)).trans ?_
    exact R_ireturn (by decide +kernel) (by decide +kernel)
  · refine (R_iconst (n := 0) (v := 0) (by decide +kernel) (by decide +kernel)).trans ?_
    exact R_ireturn (by decide +kernel) (by decide +kernel)
theorem s187 {L : Nat} {mi : Nat → Nat → Int32} {ml : Nat → Nat → Int64} {d : Nat} {Q : Option Value → xM → Prop} {x1 x2 : Int32} : Xm 187 [.ref 68, .int x1, .int x2] (SH L, mi, ml, MR) (d + 1) Q =
    Xm 172 [.ref 68, .int x1] (SH L, mi, ml, MR) d (fun v μ' => X 187 5 [.ref 68, .int x1, .int x2] (v.toList ++ []) μ' (d + 1) Q) := by
  rw [Xm_ent (n := 3) (loc := [.ref 68, .int x1, .int x2]) (by decide +kernel) rfl]
  refine (R_pure0 (ins := .aload_n 0) (len := 1) (loc' := [.ref 68, .int x1, .int x2]) (st' := [.ref 68]) (by decide +kernel) (fun _ => rfl)).trans ?_
  refine (R_pure0 (ins := .iload_n 1) (len := 1) (loc' := [.ref 68, .int x1, .int x2]) (st' := [.int x1, .ref 68]) (by decide +kernel) (fun _ => rfl)).trans ?_
  refine (R_virt (i := 169) (f := 172) (kd := 0) (na := 1) (ml := 2) (ci := 10) (n := 33) (b := 68) (As := [.int x1]) (rest := []) (by decide +kernel) (by decide +kernel) (by decide) (by decide +kernel) rfl (by decide +kernel) rfl rfl (by decide +kernel) (Nat.le_of_ble_eq_true rfl)).trans ?_
  rfl
theorem s187_5 {L : Nat} {mi : Nat → Nat → Int32} {ml : Nat → Nat → Int64} {d : Nat} {Q : Option Value → xM → Prop} {x1 x2 y : Int32} : X 187 5 [.ref 68, .int x1, .int x2] [.int y] (SH L, mi, ml, MR) (d + 1) Q =
    if (y = 0) then (Q (some (.int (-1))) (SH L, mi, ml, MR)) else (Xm 173 [.int x2] (SH L, mi, ml, MR) d (fun v μ' => X 187 12 [.ref 68, .int x1, .int x2] (v.toList ++ []) μ' (d + 1) Q)) := by
  refine (R_if_eq (off := 19) (t := 24) (by decide +kernel) (by decide +kernel)).trans (ite_congr rfl (fun c0 => ?_) (fun c0 => ?_))
  · refine (R_iconst (n := (-1)) (v := (-1)) (by decide +kernel) (by decide +kernel)).trans ?_
    exact R_ireturn (by decide +kernel) (by decide +kernel)
  · refine (R_pure0 (ins := .iload_n 2) (len := 1) (loc' := [.ref 68, .int x1, .int x2]) (st' := [.int x2]) (by decide +kernel) (fun _ => rfl)).trans ?_
    refine (R_static (i := 181) (f := 173) (kd := 2) (na := 1) (ml := 1) (As := [.int x2]) (rest := []) (by decide +kernel) (by decide +kernel) (by decide) (by decide +kernel) rfl rfl (by decide +kernel) (Nat.le_of_ble_eq_true rfl)).trans ?_
    rfl
theorem s187_12 {L : Nat} {mi : Nat → Nat → Int32} {ml : Nat → Nat → Int64} {d : Nat} {Q : Option Value → xM → Prop} {x1 x2 y : Int32} : X 187 12 [.ref 68, .int x1, .int x2] [.int y] (SH L, mi, ml, MR) (d + 1) Q =
    if (y = 0) then (Q (some (.int (-1))) (SH L, mi, ml, MR)) else (Xm 180 [.ref 68, .int x1, .int x2] (SH L, mi, ml, MR) d (fun v μ' => X 187 21 [.ref 68, .int x1, .int x2] (v.toList ++ []) μ' (d + 1) Q)) := by
  refine (R_if_eq (off := 12) (t := 24) (by decide +kernel) (by decide +kernel)).trans (ite_congr rfl (fun c0 => ?_) (fun c0 => ?_))
  · refine (R_iconst (n := (-1)) (v := (-1)) (by decide +kernel) (by decide +kernel)).trans ?_
    exact R_ireturn (by decide +kernel) (by decide +kernel)
  · refine (R_pure0 (ins := .aload_n 0) (len := 1) (loc' := [.ref 68, .int x1, .int x2]) (st' := [.ref 68]) (by decide +kernel) (fun _ => rfl)).trans ?_
    refine (R_pure0 (ins := .iload_n 1) (len := 1) (loc' := [.ref 68, .int x1, .int x2]) (st' := [.int x1, .ref 68]) (by decide +kernel) (fun _ => rfl)).trans ?_
    refine (R_pure0 (ins := .iload_n 2) (len := 1) (loc' := [.ref 68, .int x1, .int x2]) (st' := [.int x2, .int x1, .ref 68]) (by decide +kernel) (fun _ => rfl)).trans ?_
    refine (R_virt (i := 178) (f := 180) (kd := 0) (na := 2) (ml := 3) (ci := 10) (n := 33) (b := 68) (As := [.int x1, .int x2]) (rest := []) (by decide +kernel) (by decide +kernel) (by decide) (by decide +kernel) rfl (by decide +kernel) rfl rfl (by decide +kernel) (Nat.le_of_ble_eq_true rfl)).trans ?_
    rfl
theorem s187_21 {L : Nat} {mi : Nat → Nat → Int32} {ml : Nat → Nat → Int64} {d : Nat} {Q : Option Value → xM → Prop} {x1 x2 y : Int32} : X 187 21 [.ref 68, .int x1, .int x2] [.int y] (SH L, mi, ml, MR) d Q =
    Q (some (.int y)) (SH L, mi, ml, MR) := by
  refine (R_goto (off := 4) (t := 25) (by decide +kernel) (by decide +kernel)).trans ?_
  exact R_ireturn (by decide +kernel) (by decide +kernel)
theorem s188 {L : Nat} {mi : Nat → Nat → Int32} {ml : Nat → Nat → Int64} {d : Nat} {Q : Option Value → xM → Prop} {x1 x3 x4 : Int32} {r0 r2 : Nat} {n_r0 : Nat} {n_r2 : Nat} (hS_r0 : (SH L)[r0]? = some (100, n_r0)) (hS_r2 : (SH L)[r2]? = some (100, n_r2)) : Xm 188 [.ref r0, .int x1, .ref r2, .int x3, .int x4] (SH L, mi, ml, MR) d Q =
    X 188 3 [.ref r0, .int x1, .ref r2, .int x3, .int x4, .int 0] [] (SH L, mi, ml, MR) d Q := by
  rw [Xm_ent (n := 6) (loc := [.ref r0, .int x1, .ref r2, .int x3, .int x4, xmk]) (by decide +kernel) rfl]
  refine (R_iconst (n := 0) (v := 0) (by decide +kernel) (by decide +kernel)).trans ?_
  refine (R_pure0 (ins := .istore 5) (len := 2) (loc' := [.ref r0, .int x1, .ref r2, .int x3, .int x4, .int 0]) (st' := []) (by decide +kernel) (fun _ => rfl)).trans ?_
  rfl
theorem s188_3 {L : Nat} {mi : Nat → Nat → Int32} {ml : Nat → Nat → Int64} {d : Nat} {Q : Option Value → xM → Prop} {x1 x3 x4 x5 : Int32} {r0 r2 : Nat} {n_r0 : Nat} {n_r2 : Nat} (hS_r0 : (SH L)[r0]? = some (100, n_r0)) (hS_r2 : (SH L)[r2]? = some (100, n_r2)) (h1 : (x5 < x4) → xin (x1 + x5) n_r0 = true) (h2 : (x5 < x4) → xin (x3 + x5) n_r2 = true) : X 188 3 [.ref r0, .int x1, .ref r2, .int x3, .int x4, .int x5] [] (SH L, mi, ml, MR) d Q =
    if (x5 < x4) then (X 188 3 [.ref r0, .int x1, .ref r2, .int x3, .int x4, .int (x5 + 1)] [] (SH L, (xw mi r2 (x3 + x5).toNatClampNeg (mi r0 (x1 + x5).toNatClampNeg)), ml, MR) d Q) else (Q none (SH L, mi, ml, MR)) := by
  refine (R_pure0 (ins := .iload 5) (len := 2) (loc' := [.ref r0, .int x1, .ref r2, .int x3, .int x4, .int x5]) (st' := [.int x5]) (by decide +kernel) (fun _ => rfl)).trans ?_
  refine (R_pure0 (ins := .iload 4) (len := 2) (loc' := [.ref r0, .int x1, .ref r2, .int x3, .int x4, .int x5]) (st' := [.int x4, .int x5]) (by decide +kernel) (fun _ => rfl)).trans ?_
  refine (R_icmp_ge (off := 21) (t := 28) (by decide +kernel) (by decide +kernel)).trans (ite_congr rfl (fun c0 => ?_) (fun c0 => ?_))
  · refine (R_pure0 (ins := .aload_n 2) (len := 1) (loc' := [.ref r0, .int x1, .ref r2, .int x3, .int x4, .int x5]) (st' := [.ref r2]) (by decide +kernel) (fun _ => rfl)).trans ?_
    refine (R_pure0 (ins := .iload_n 3) (len := 1) (loc' := [.ref r0, .int x1, .ref r2, .int x3, .int x4, .int x5]) (st' := [.int x3, .ref r2]) (by decide +kernel) (fun _ => rfl)).trans ?_
    refine (R_pure0 (ins := .iload 5) (len := 2) (loc' := [.ref r0, .int x1, .ref r2, .int x3, .int x4, .int x5]) (st' := [.int x5, .int x3, .ref r2]) (by decide +kernel) (fun _ => rfl)).trans ?_
    refine (R_pure0 (ins := .iadd) (len := 1) (loc' := [.ref r0, .int x1, .ref r2, .int x3, .int x4, .int x5]) (st' := [.int (x3 + x5), .ref r2]) (by decide +kernel) (fun _ => rfl)).trans ?_
    refine (R_pure0 (ins := .aload_n 0) (len := 1) (loc' := [.ref r0, .int x1, .ref r2, .int x3, .int x4, .int x5]) (st' := [.ref r0, .int (x3 + x5), .ref r2]) (by decide +kernel) (fun _ => rfl)).trans ?_
    refine (R_pure0 (ins := .iload_n 1) (len := 1) (loc' := [.ref r0, .int x1, .ref r2, .int x3, .int x4, .int x5]) (st' := [.int x1, .ref r0, .int (x3 + x5), .ref r2]) (by decide +kernel) (fun _ => rfl)).trans ?_
    refine (R_pure0 (ins := .iload 5) (len := 2) (loc' := [.ref r0, .int x1, .ref r2, .int x3, .int x4, .int x5]) (st' := [.int x5, .int x1, .ref r0, .int (x3 + x5), .ref r2]) (by decide +kernel) (fun _ => rfl)).trans ?_
    refine (R_pure0 (ins := .iadd) (len := 1) (loc' := [.ref r0, .int x1, .ref r2, .int x3, .int x4, .int x5]) (st' := [.int (x1 + x5), .ref r0, .int (x3 + x5), .ref r2]) (by decide +kernel) (fun _ => rfl)).trans ?_
    refine (R_iaload (kd := 100) (n := n_r0) (by decide +kernel) hS_r0 (by decide) (h1 c0)).trans ?_
    refine (R_iastore (n := n_r2) (by decide +kernel) hS_r2 (h2 c0)).trans ?_
    refine (R_iinc (k := 5) (n := 1) (x := x5) (v := (x5 + 1)) (loc' := [.ref r0, .int x1, .ref r2, .int x3, .int x4, .int (x5 + 1)]) (by decide +kernel) rfl rfl rfl).trans ?_
    refine (R_goto (off := (-22)) (t := 3) (by decide +kernel) (by decide +kernel)).trans ?_
    rfl
  · exact R_return (by decide +kernel) (by decide +kernel)
theorem s189 {L : Nat} {mi : Nat → Nat → Int32} {ml : Nat → Nat → Int64} {d : Nat} {Q : Option Value → xM → Prop} : Xm 189 [.ref 68] (SH L, mi, ml, MR) (d + 1) Q =
    Xm 188 [.ref 77, .int 0, .ref 78, .int (15 * (mi 68 10)), .int 15] (SH L, mi, ml, MR) d (fun v μ' => X 189 21 [.ref 68] (v.toList ++ []) μ' (d + 1) Q) := by
  rw [Xm_ent (n := 1) (loc := [.ref 68]) (by decide +kernel) rfl]
  refine (R_pure0 (ins := .aload_n 0) (len := 1) (loc' := [.ref 68]) (st' := [.ref 68]) (by decide +kernel) (fun _ => rfl)).trans ?_
  refine (R_gr (i := 34) (ci := 10) (k := 9) (n := 33) (b := 77) (by decide +kernel) (by decide +kernel) (by decide) rfl (SH_ref (by decide +kernel))).trans ?_
  refine (R_iconst (n := 0) (v := 0) (by decide +kernel) (by decide +kernel)).trans ?_
  refine (R_pure0 (ins := .aload_n 0) (len := 1) (loc' := [.ref 68]) (st' := [.ref 68, .int 0, .ref 77]) (by decide +kernel) (fun _ => rfl)).trans ?_
  refine (R_gr (i := 37) (ci := 10) (k := 11) (n := 33) (b := 78) (by decide +kernel) (by decide +kernel) (by decide) rfl (SH_ref (by decide +kernel))).trans ?_
  refine (R_bipush (n := 15) (v := 15) (by decide +kernel) (by decide +kernel)).trans ?_
  refine (R_pure0 (ins := .aload_n 0) (len := 1) (loc' := [.ref 68]) (st' := [.ref 68, .int 15, .ref 78, .int 0, .ref 77]) (by decide +kernel) (fun _ => rfl)).trans ?_
  refine (R_gi (i := 134) (ci := 10) (k := 10) (n := 33) (by decide +kernel) (by decide +kernel) (by decide) rfl).trans ?_
  refine (R_pure0 (ins := .imul) (len := 1) (loc' := [.ref 68]) (st' := [.int (15 * (mi 68 10)), .ref 78, .int 0, .ref 77]) (by decide +kernel) (fun _ => rfl)).trans ?_
  refine (R_bipush (n := 15) (v := 15) (by decide +kernel) (by decide +kernel)).trans ?_
  refine (R_static (i := 184) (f := 188) (kd := 2) (na := 5) (ml := 6) (As := [.ref 77, .int 0, .ref 78, .int (15 * (mi 68 10)), .int 15]) (rest := []) (by decide +kernel) (by decide +kernel) (by decide) (by decide +kernel) rfl rfl (by decide +kernel) (Nat.le_of_ble_eq_true rfl)).trans ?_
  rfl
theorem s189_21 {L : Nat} {mi : Nat → Nat → Int32} {ml : Nat → Nat → Int64} {d : Nat} {Q : Option Value → xM → Prop} : X 189 21 [.ref 68] [] (SH L, mi, ml, MR) d Q =
    Q none (SH L, (xw mi 68 10 ((mi 68 10) + 1)), ml, MR) := by
  refine (R_pure0 (ins := .aload_n 0) (len := 1) (loc' := [.ref 68]) (st' := [.ref 68]) (by decide +kernel) (fun _ => rfl)).trans ?_
  refine (R_pure0 (ins := .dup) (len := 1) (loc' := [.ref 68]) (st' := [.ref 68, .ref 68]) (by decide +kernel) (fun _ => rfl)).trans ?_
  refine (R_gi (i := 134) (ci := 10) (k := 10) (n := 33) (by decide +kernel) (by decide +kernel) (by decide) rfl).trans ?_
  refine (R_iconst (n := 1) (v := 1) (by decide +kernel) (by decide +kernel)).trans ?_
  refine (R_pure0 (ins := .iadd) (len := 1) (loc' := [.ref 68]) (st' := [.int ((mi 68 10) + 1), .ref 68]) (by decide +kernel) (fun _ => rfl)).trans ?_
  refine (R_pi (i := 134) (ci := 10) (k := 10) (n := 33) (by decide +kernel) (by decide +kernel) (by decide) rfl).trans ?_
  exact R_return (by decide +kernel) (by decide +kernel)
theorem s190 {L : Nat} {mi : Nat → Nat → Int32} {ml : Nat → Nat → Int64} {d : Nat} {Q : Option Value → xM → Prop} : Xm 190 [.ref 68] (SH L, mi, ml, MR) (d + 1) Q =
    if ((mi 68 4) = 0) then (Q (some (.int (-4))) (SH L, mi, ml, MR)) else (if ((mi 68 10) = 40) then (Q (some (.int (-2))) (SH L, mi, ml, MR)) else (Xm 189 [.ref 68] (SH L, mi, ml, MR) d (fun v μ' => X 190 26 [.ref 68] (v.toList ++ []) μ' (d + 1) Q))) := by
  rw [Xm_ent (n := 1) (loc := [.ref 68]) (by decide +kernel) rfl]
  refine (R_pure0 (ins := .aload_n 0) (len := 1) (loc' := [.ref 68]) (st' := [.ref 68]) (by decide +kernel) (fun _ => rfl)).trans ?_
  refine (R_gi (i := 131) (ci := 10) (k := 4) (n := 33) (by decide +kernel) (by decide +kernel) (by decide) rfl).trans ?_
  refine (R_if_ne (off := 6) (t := 10) (by decide +kernel) (by decide +kernel)).trans (ite_congr rfl (fun c0 => ?_) (fun c0 => ?_))
  · refine (R_bipush (n := (-4)) (v := (-4)) (by decide +kernel) (by decide +kernel)).trans ?_
    exact R_ireturn (by decide +kernel) (by decide +kernel)
  · refine (R_pure0 (ins := .aload_n 0) (len := 1) (loc' := [.ref 68]) (st' := [.ref 68]) (by decide +kernel) (fun _ => rfl)).trans ?_
    refine (R_gi (i := 134) (ci := 10) (k := 10) (n := 33) (by decide +kernel) (by decide +kernel) (by decide) rfl).trans ?_
    refine (R_bipush (n := 40) (v := 40) (by decide +kernel) (by decide +kernel)).trans ?_
    refine (R_icmp_ne (off := 6) (t := 22) (by decide +kernel) (by decide +kernel)).trans (ite_congr rfl (fun c1 => ?_) (fun c1 => ?_))
    · refine (R_bipush (n := (-2)) (v := (-2)) (by decide +kernel) (by decide +kernel)).trans ?_
      exact R_ireturn (by decide +kernel) (by decide +kernel)
    · refine (R_pure0 (ins := .aload_n 0) (len := 1) (loc' := [.ref 68]) (st' := [.ref 68]) (by decide +kernel) (fun _ => rfl)).trans ?_
      refine (R_virt (i := 188) (f := 189) (kd := 0) (na := 0) (ml := 1) (ci := 10) (n := 33) (b := 68) (As := []) (rest := []) (by decide +kernel) (by decide +kernel) (by decide) (by decide +kernel) rfl (by decide +kernel) rfl rfl (by decide +kernel) (Nat.le_of_ble_eq_true rfl)).trans ?_
      rfl
theorem s190_26 {L : Nat} {mi : Nat → Nat → Int32} {ml : Nat → Nat → Int64} {d : Nat} {Q : Option Value → xM → Prop} : X 190 26 [.ref 68] [] (SH L, mi, ml, MR) d Q =
    Q (some (.int ((xw mi 77 (13 : Int32).toNatClampNeg ((mi 77 (13 : Int32).toNatClampNeg) + 1)) 77 (13 : Int32).toNatClampNeg))) (SH L, (xw mi 77 (13 : Int32).toNatClampNeg ((mi 77 (13 : Int32).toNatClampNeg) + 1)), ml, MR) := by
  refine (R_pure0 (ins := .aload_n 0) (len := 1) (loc' := [.ref 68]) (st' := [.ref 68]) (by decide +kernel) (fun _ => rfl)).trans ?_
  refine (R_gr (i := 34) (ci := 10) (k := 9) (n := 33) (b := 77) (by decide +kernel) (by decide +kernel) (by decide) rfl (SH_ref (by decide +kernel))).trans ?_
  refine (R_bipush (n := 13) (v := 13) (by decide +kernel) (by decide +kernel)).trans ?_
  refine (R_pure0 (ins := .dup2) (len := 1) (loc' := [.ref 68]) (st' := [.int 13, .ref 77, .int 13, .ref 77]) (by decide +kernel) (fun _ => rfl)).trans ?_
  refine (R_iaload (kd := 100) (n := 15) (by decide +kernel) rfl (by decide) (by decide)).trans ?_
  refine (R_iconst (n := 1) (v := 1) (by decide +kernel) (by decide +kernel)).trans ?_
  refine (R_pure0 (ins := .iadd) (len := 1) (loc' := [.ref 68]) (st' := [.int ((mi 77 (13 : Int32).toNatClampNeg) + 1), .int 13, .ref 77]) (by decide +kernel) (fun _ => rfl)).trans ?_
  refine (R_iastore (n := 15) (by decide +kernel) rfl (by decide)).trans ?_
  refine (R_pure0 (ins := .aload_n 0) (len := 1) (loc' := [.ref 68]) (st' := [.ref 68]) (by decide +kernel) (fun _ => rfl)).trans ?_
  refine (R_gr (i := 34) (ci := 10) (k := 9) (n := 33) (b := 77) (by decide +kernel) (by decide +kernel) (by decide) rfl (SH_ref (by decide +kernel))).trans ?_
  refine (R_bipush (n := 13) (v := 13) (by decide +kernel) (by decide +kernel)).trans ?_
  refine (R_iaload (kd := 100) (n := 15) (by decide +kernel) rfl (by decide) (by decide)).trans ?_
  exact R_ireturn (by decide +kernel) (by decide +kernel)
theorem s191 {L : Nat} {mi : Nat → Nat → Int32} {ml : Nat → Nat → Int64} {d : Nat} {Q : Option Value → xM → Prop} {x1 : Int32} (h1 : xin (0 + x1) 15 = true) : Xm 191 [.ref 68, .int x1] (SH L, mi, ml, MR) (d + 1) Q =
    if ((mi 77 (0 + x1).toNatClampNeg) < 9) then (Xm 150 [.int (mi 77 (12 : Int32).toNatClampNeg), .int x1] (SH L, mi, ml, MR) d (fun v μ' => X 191 24 [.ref 68, .int x1] (v.toList ++ []) μ' (d + 1) Q)) else (Q (some (.int 0)) (SH L, mi, ml, MR)) := by
  rw [Xm_ent (n := 2) (loc := [.ref 68, .int x1]) (by decide +kernel) rfl]
  refine (R_pure0 (ins := .aload_n 0) (len := 1) (loc' := [.ref 68, .int x1]) (st' := [.ref 68]) (by decide +kernel) (fun _ => rfl)).trans ?_
  refine (R_gr (i := 34) (ci := 10) (k := 9) (n := 33) (b := 77) (by decide +kernel) (by decide +kernel) (by decide) rfl (SH_ref (by decide +kernel))).trans ?_
  refine (R_iconst (n := 0) (v := 0) (by decide +kernel) (by decide +kernel)).trans ?_
  refine (R_pure0 (ins := .iload_n 1) (len := 1) (loc' := [.ref 68, .int x1]) (st' := [.int x1, .int 0, .ref 77]) (by decide +kernel) (fun _ => rfl)).trans ?_
  refine (R_pure0 (ins := .iadd) (len := 1) (loc' := [.ref 68, .int x1]) (st' := [.int (0 + x1), .ref 77]) (by decide +kernel) (fun _ => rfl)).trans ?_
  refine (R_iaload (kd := 100) (n := 15) (by decide +kernel) rfl (by decide) (h1)).trans ?_
  refine (R_bipush (n := 9) (v := 9) (by decide +kernel) (by decide +kernel)).trans ?_
  refine (R_icmp_ge (off := 21) (t := 31) (by decide +kernel) (by decide +kernel)).trans (ite_congr rfl (fun c0 => ?_) (fun c0 => ?_))
  · refine (R_pure0 (ins := .aload_n 0) (len := 1) (loc' := [.ref 68, .int x1]) (st' := [.ref 68]) (by decide +kernel) (fun _ => rfl)).trans ?_
    refine (R_gr (i := 34) (ci := 10) (k := 9) (n := 33) (b := 77) (by decide +kernel) (by decide +kernel) (by decide) rfl (SH_ref (by decide +kernel))).trans ?_
    refine (R_bipush (n := 12) (v := 12) (by decide +kernel) (by decide +kernel)).trans ?_
    refine (R_iaload (kd := 100) (n := 15) (by decide +kernel) rfl (by decide) (by decide)).trans ?_
    refine (R_pure0 (ins := .iload_n 1) (len := 1) (loc' := [.ref 68, .int x1]) (st' := [.int x1, .int (mi 77 (12 : Int32).toNatClampNeg)]) (by decide +kernel) (fun _ => rfl)).trans ?_
    refine (R_static (i := 156) (f := 150) (kd := 2) (na := 2) (ml := 2) (As := [.int (mi 77 (12 : Int32).toNatClampNeg), .int x1]) (rest := []) (by decide +kernel) (by decide +kernel) (by decide) (by decide +kernel) rfl rfl (by decide +kernel) (Nat.le_of_ble_eq_true rfl)).trans ?_
    rfl
  · refine (R_iconst (n := 0) (v := 0) (by decide +kernel) (by decide +kernel)).trans ?_
    exact R_zreturn (by decide +kernel) (by decide +kernel) (by decide)
theorem s191_24 {L : Nat} {mi : Nat → Nat → Int32} {ml : Nat → Nat → Int64} {d : Nat} {Q : Option Value → xM → Prop} {x1 y : Int32} : X 191 24 [.ref 68, .int x1] [.int y] (SH L, mi, ml, MR) d Q =
    if (y = 0) then (Q (some (.int 1)) (SH L, mi, ml, MR)) else (Q (some (.int 0)) (SH L, mi, ml, MR)) := by
  refine (R_if_ne (off := 7) (t := 31) (by decide +kernel) (by decide +kernel)).trans (ite_congr rfl (fun c0 => ?_) (fun c0 => ?_))
  · refine (R_iconst (n := 1) (v := 1) (by decide +kernel) (by decide +kernel)).trans ?_
    refine (R_goto (off := 4) (t := 32) (by decide +kernel) (by decide +kernel)).trans ?_
    exact R_zreturn (by decide +kernel) (by decide +kernel) (by decide)
  · refine (R_iconst (n := 0) (v := 0) (by decide +kernel) (by decide +kernel)).trans ?_
    exact R_zreturn (by decide +kernel) (by decide +kernel) (by decide)
theorem s192 {L : Nat} {mi : Nat → Nat → Int32} {ml : Nat → Nat → Int64} {d : Nat} {Q : Option Value → xM → Prop} {x1 : Int32} : Xm 192 [.ref 68, .int x1] (SH L, mi, ml, MR) (d + 1) Q =
    Xm 172 [.ref 68, .int x1] (SH L, mi, ml, MR) d (fun v μ' => X 192 5 [.ref 68, .int x1] (v.toList ++ []) μ' (d + 1) Q) := by
  rw [Xm_ent (n := 2) (loc := [.ref 68, .int x1]) (by decide +kernel) rfl]
  refine (R_pure0 (ins := .aload_n 0) (len := 1) (loc' := [.ref 68, .int x1]) (st' := [.ref 68]) (by decide +kernel) (fun _ => rfl)).trans ?_
  refine (R_pure0 (ins := .iload_n 1) (len := 1) (loc' := [.ref 68, .int x1]) (st' := [.int x1, .ref 68]) (by decide +kernel) (fun _ => rfl)).trans ?_
  refine (R_virt (i := 169) (f := 172) (kd := 0) (na := 1) (ml := 2) (ci := 10) (n := 33) (b := 68) (As := [.int x1]) (rest := []) (by decide +kernel) (by decide +kernel) (by decide) (by decide +kernel) rfl (by decide +kernel) rfl rfl (by decide +kernel) (Nat.le_of_ble_eq_true rfl)).trans ?_
  rfl
theorem s192_5 {L : Nat} {mi : Nat → Nat → Int32} {ml : Nat → Nat → Int64} {d : Nat} {Q : Option Value → xM → Prop} {x1 y : Int32} : X 192 5 [.ref 68, .int x1] [.int y] (SH L, mi, ml, MR) (d + 1) Q =
    if (y = 0) then (Q (some (.int (-1))) (SH L, mi, ml, MR)) else (Xm 191 [.ref 68, .int x1] (SH L, mi, ml, MR) d (fun v μ' => X 192 15 [.ref 68, .int x1] (v.toList ++ []) μ' (d + 1) Q)) := by
  refine (R_if_ne (off := 5) (t := 10) (by decide +kernel) (by decide +kernel)).trans (ite_congr rfl (fun c0 => ?_) (fun c0 => ?_))
  · refine (R_iconst (n := (-1)) (v := (-1)) (by decide +kernel) (by decide +kernel)).trans ?_
    exact R_ireturn (by decide +kernel) (by decide +kernel)
  · refine (R_pure0 (ins := .aload_n 0) (len := 1) (loc' := [.ref 68, .int x1]) (st' := [.ref 68]) (by decide +kernel) (fun _ => rfl)).trans ?_
    refine (R_pure0 (ins := .iload_n 1) (len := 1) (loc' := [.ref 68, .int x1]) (st' := [.int x1, .ref 68]) (by decide +kernel) (fun _ => rfl)).trans ?_
    refine (R_virt (i := 191) (f := 191) (kd := 0) (na := 1) (ml := 2) (ci := 10) (n := 33) (b := 68) (As := [.int x1]) (rest := []) (by decide +kernel) (by decide +kernel) (by decide) (by decide +kernel) rfl (by decide +kernel) rfl rfl (by decide +kernel) (Nat.le_of_ble_eq_true rfl)).trans ?_
    rfl
theorem s192_15 {L : Nat} {mi : Nat → Nat → Int32} {ml : Nat → Nat → Int64} {d : Nat} {Q : Option Value → xM → Prop} {x1 y : Int32} : X 192 15 [.ref 68, .int x1] [.int y] (SH L, mi, ml, MR) (d + 1) Q =
    if (y = 0) then (Q (some (.int (-4))) (SH L, mi, ml, MR)) else (if ((mi 68 10) = 40) then (Q (some (.int (-2))) (SH L, mi, ml, MR)) else (Xm 189 [.ref 68] (SH L, mi, ml, MR) d (fun v μ' => X 192 37 [.ref 68, .int x1] (v.toList ++ []) μ' (d + 1) Q))) := by
  refine (R_if_ne (off := 6) (t := 21) (by decide +kernel) (by decide +kernel)).trans (ite_congr rfl (fun c0 => ?_) (fun c0 => ?_))
  · refine (R_bipush (n := (-4)) (v := (-4)) (by decide +kernel) (by decide +kernel)).trans ?_
    exact R_ireturn (by decide +kernel) (by decide +kernel)
  · refine (R_pure0 (ins := .aload_n 0) (len := 1) (loc' := [.ref 68, .int x1]) (st' := [.ref 68]) (by decide +kernel) (fun _ => rfl)).trans ?_
    refine (R_gi (i := 134) (ci := 10) (k := 10) (n := 33) (by decide +kernel) (by decide +kernel) (by decide) rfl).trans ?_
    refine (R_bipush (n := 40) (v := 40) (by decide +kernel) (by decide +kernel)).trans ?_
    refine (R_icmp_ne (off := 6) (t := 33) (by decide +kernel) (by decide +kernel)).trans (ite_congr rfl (fun c1 => ?_) (fun c1 => ?_))
    · refine (R_bipush (n := (-2)) (v := (-2)) (by decide +kernel) (by decide +kernel)).trans ?_
      exact R_ireturn (by decide +kernel) (by decide +kernel)
    · refine (R_pure0 (ins := .aload_n 0) (len := 1) (loc' := [.ref 68, .int x1]) (st' := [.ref 68]) (by decide +kernel) (fun _ => rfl)).trans ?_
      refine (R_virt (i := 188) (f := 189) (kd := 0) (na := 0) (ml := 1) (ci := 10) (n := 33) (b := 68) (As := []) (rest := []) (by decide +kernel) (by decide +kernel) (by decide) (by decide +kernel) rfl (by decide +kernel) rfl rfl (by decide +kernel) (Nat.le_of_ble_eq_true rfl)).trans ?_
      rfl
theorem s192_37 {L : Nat} {mi : Nat → Nat → Int32} {ml : Nat → Nat → Int64} {d : Nat} {Q : Option Value → xM → Prop} {x1 : Int32} (h1 : xin (0 + x1) 15 = true) (h2 : xin (0 + x1) 15 = true) (h3 : xin (0 + x1) 15 = true) : X 192 37 [.ref 68, .int x1] [] (SH L, mi, ml, MR) d Q =
    Q (some (.int ((xw mi 77 (0 + x1).toNatClampNeg ((mi 77 (0 + x1).toNatClampNeg) + 1)) 77 (0 + x1).toNatClampNeg))) (SH L, (xw mi 77 (0 + x1).toNatClampNeg ((mi 77 (0 + x1).toNatClampNeg) + 1)), ml, MR) := by
  refine (R_pure0 (ins := .aload_n 0) (len := 1) (loc' := [.ref 68, .int x1]) (st' := [.ref 68]) (by decide +kernel) (fun _ => rfl)).trans ?_
  refine (R_gr (i := 34) (ci := 10) (k := 9) (n := 33) (b := 77) (by decide +kernel) (by decide +kernel) (by decide) rfl (SH_ref (by decide +kernel))).trans ?_
  refine (R_iconst (n := 0) (v := 0) (by decide +kernel) (by decide +kernel)).trans ?_
  refine (R_pure0 (ins := .iload_n 1) (len := 1) (loc' := [.ref 68, .int x1]) (st' := [.int x1, .int 0, .ref 77]) (by decide +kernel) (fun _ => rfl)).trans ?_
  refine (R_pure0 (ins := .iadd) (len := 1) (loc' := [.ref 68, .int x1]) (st' := [.int (0 + x1), .ref 77]) (by decide +kernel) (fun _ => rfl)).trans ?_
  refine (R_pure0 (ins := .dup2) (len := 1) (loc' := [.ref 68, .int x1]) (st' := [.int (0 + x1), .ref 77, .int (0 + x1), .ref 77]) (by decide +kernel) (fun _ => rfl)).trans ?_
  refine (R_iaload (kd := 100) (n := 15) (by decide +kernel) rfl (by decide) (h1)).trans ?_
  refine (R_iconst (n := 1) (v := 1) (by decide +kernel) (by decide +kernel)).trans ?_
  refine (R_pure0 (ins := .iadd) (len := 1) (loc' := [.ref 68, .int x1]) (st' := [.int ((mi 77 (0 + x1).toNatClampNeg) + 1), .int (0 + x1), .ref 77]) (by decide +kernel) (fun _ => rfl)).trans ?_
  refine (R_iastore (n := 15) (by decide +kernel) rfl (h2)).trans ?_
  refine (R_pure0 (ins := .aload_n 0) (len := 1) (loc' := [.ref 68, .int x1]) (st' := [.ref 68]) (by decide +kernel) (fun _ => rfl)).trans ?_
  refine (R_gr (i := 34) (ci := 10) (k := 9) (n := 33) (b := 77) (by decide +kernel) (by decide +kernel) (by decide) rfl (SH_ref (by decide +kernel))).trans ?_
  refine (R_iconst (n := 0) (v := 0) (by decide +kernel) (by decide +kernel)).trans ?_
  refine (R_pure0 (ins := .iload_n 1) (len := 1) (loc' := [.ref 68, .int x1]) (st' := [.int x1, .int 0, .ref 77]) (by decide +kernel) (fun _ => rfl)).trans ?_
  refine (R_pure0 (ins := .iadd) (len := 1) (loc' := [.ref 68, .int x1]) (st' := [.int (0 + x1), .ref 77]) (by decide +kernel) (fun _ => rfl)).trans ?_
  refine (R_iaload (kd := 100) (n := 15) (by decide +kernel) rfl (by decide) (h3)).trans ?_
  exact R_ireturn (by decide +kernel) (by decide +kernel)
