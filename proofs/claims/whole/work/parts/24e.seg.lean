theorem s99 {L : Nat} {mi : Nat → Nat → Int32} {ml : Nat → Nat → Int64} {d : Nat} {Q : Option Value → xM → Prop} {x1 x2 : Int32} : Xm 99 [.ref 2, .int x1, .int x2] (SH L, mi, ml, MR) (d + 1) Q =
    Xm 82 [.ref 3, .int x1] (SH L, mi, ml, MR) d (fun v μ' => X 99 9 [.ref 2, .int x1, .int x2] (v.toList ++ [.ref 2]) μ' (d + 1) Q) := by
  rw [Xm_ent (n := 3) (loc := [.ref 2, .int x1, .int x2]) (by decide +kernel) rfl]
  refine (R_pure0 (ins := .aload_n 0) (len := 1) (loc' := [.ref 2, .int x1, .int x2]) (st' := [.ref 2]) (by decide +kernel) (fun _ => rfl)).trans ?_
  refine (R_pure0 (ins := .aload_n 0) (len := 1) (loc' := [.ref 2, .int x1, .int x2]) (st' := [.ref 2, .ref 2]) (by decide +kernel) (fun _ => rfl)).trans ?_
  refine (R_gr (i := 14) (ci := 9) (k := 0) (n := 12) (b := 3) (by decide +kernel) (by decide +kernel) (by decide) rfl (SH_ref (by decide +kernel))).trans ?_
  refine (R_pure0 (ins := .iload_n 1) (len := 1) (loc' := [.ref 2, .int x1, .int x2]) (st' := [.int x1, .ref 3, .ref 2]) (by decide +kernel) (fun _ => rfl)).trans ?_
  refine (R_virt (i := 81) (f := 82) (kd := 0) (na := 1) (ml := 2) (ci := 7) (n := 1) (b := 3) (As := [.int x1]) (rest := [.ref 2]) (by decide +kernel) (by decide +kernel) (by decide) (by decide +kernel) rfl (by decide +kernel) rfl rfl (by decide +kernel) (Nat.le_of_ble_eq_true rfl)).trans ?_
  rfl
theorem s99_9 {L : Nat} {mi : Nat → Nat → Int32} {ml : Nat → Nat → Int64} {d : Nat} {Q : Option Value → xM → Prop} {x1 x2 : Int32} {ry : Nat} {n_ry : Nat} (hS_ry : isStrip L ry n_ry) : X 99 9 [.ref 2, .int x1, .int x2] [.ref ry, .ref 2] (SH L, mi, ml, MR) (d + 1) Q =
    Xm 144 [.ref 2, .ref ry, .int x2, .int 40, .int 0] (SH L, mi, ml, MR) d (fun v μ' => X 99 16 [.ref 2, .int x1, .int x2] (v.toList ++ []) μ' (d + 1) Q) := by
  refine (R_pure0 (ins := .iload_n 2) (len := 1) (loc' := [.ref 2, .int x1, .int x2]) (st' := [.int x2, .ref ry, .ref 2]) (by decide +kernel) (fun _ => rfl)).trans ?_
  refine (R_bipush (n := 40) (v := 40) (by decide +kernel) (by decide +kernel)).trans ?_
  refine (R_iconst (n := 0) (v := 0) (by decide +kernel) (by decide +kernel)).trans ?_
  refine (R_virt (i := 85) (f := 144) (kd := 0) (na := 4) (ml := 5) (ci := 9) (n := 12) (b := 2) (As := [.ref ry, .int x2, .int 40, .int 0]) (rest := []) (by decide +kernel) (by decide +kernel) (by decide) (by decide +kernel) rfl (by decide +kernel) rfl rfl (by decide +kernel) (Nat.le_of_ble_eq_true rfl)).trans ?_
  rfl
theorem s99_9n {L : Nat} {mi : Nat → Nat → Int32} {ml : Nat → Nat → Int64} {d : Nat} {Q : Option Value → xM → Prop} {x1 x2 : Int32} : X 99 9 [.ref 2, .int x1, .int x2] [.null, .ref 2] (SH L, mi, ml, MR) (d + 1) Q =
    Xm 144 [.ref 2, .null, .int x2, .int 40, .int 0] (SH L, mi, ml, MR) d (fun v μ' => X 99 16 [.ref 2, .int x1, .int x2] (v.toList ++ []) μ' (d + 1) Q) := by
  refine (R_pure0 (ins := .iload_n 2) (len := 1) (loc' := [.ref 2, .int x1, .int x2]) (st' := [.int x2, .null, .ref 2]) (by decide +kernel) (fun _ => rfl)).trans ?_
  refine (R_bipush (n := 40) (v := 40) (by decide +kernel) (by decide +kernel)).trans ?_
  refine (R_iconst (n := 0) (v := 0) (by decide +kernel) (by decide +kernel)).trans ?_
  refine (R_virt (i := 85) (f := 144) (kd := 0) (na := 4) (ml := 5) (ci := 9) (n := 12) (b := 2) (As := [.null, .int x2, .int 40, .int 0]) (rest := []) (by decide +kernel) (by decide +kernel) (by decide) (by decide +kernel) rfl (by decide +kernel) rfl rfl (by decide +kernel) (Nat.le_of_ble_eq_true rfl)).trans ?_
  rfl
theorem s99_16 {L : Nat} {mi : Nat → Nat → Int32} {ml : Nat → Nat → Int64} {d : Nat} {Q : Option Value → xM → Prop} {x1 x2 y : Int32} : X 99 16 [.ref 2, .int x1, .int x2] [.int y] (SH L, mi, ml, MR) d Q =
    Q (some (.int y)) (SH L, mi, ml, MR) := by
  exact R_ireturn (by decide +kernel) (by decide +kernel)
theorem s100 {L : Nat} {mi : Nat → Nat → Int32} {ml : Nat → Nat → Int64} {d : Nat} {Q : Option Value → xM → Prop} {x1 x2 x3 : Int32} : Xm 100 [.ref 2, .int x1, .int x2, .int x3] (SH L, mi, ml, MR) (d + 1) Q =
    Xm 82 [.ref 3, .int x1] (SH L, mi, ml, MR) d (fun v μ' => X 100 8 [.ref 2, .int x1, .int x2, .int x3, xmk, xmk] (v.toList ++ []) μ' (d + 1) Q) := by
  rw [Xm_ent (n := 6) (loc := [.ref 2, .int x1, .int x2, .int x3, xmk, xmk]) (by decide +kernel) rfl]
  refine (R_pure0 (ins := .aload_n 0) (len := 1) (loc' := [.ref 2, .int x1, .int x2, .int x3, xmk, xmk]) (st' := [.ref 2]) (by decide +kernel) (fun _ => rfl)).trans ?_
  refine (R_gr (i := 14) (ci := 9) (k := 0) (n := 12) (b := 3) (by decide +kernel) (by decide +kernel) (by decide) rfl (SH_ref (by decide +kernel))).trans ?_
  refine (R_pure0 (ins := .iload_n 1) (len := 1) (loc' := [.ref 2, .int x1, .int x2, .int x3, xmk, xmk]) (st' := [.int x1, .ref 3]) (by decide +kernel) (fun _ => rfl)).trans ?_
  refine (R_virt (i := 81) (f := 82) (kd := 0) (na := 1) (ml := 2) (ci := 7) (n := 1) (b := 3) (As := [.int x1]) (rest := []) (by decide +kernel) (by decide +kernel) (by decide) (by decide +kernel) rfl (by decide +kernel) rfl rfl (by decide +kernel) (Nat.le_of_ble_eq_true rfl)).trans ?_
  rfl
theorem s100_8 {L : Nat} {mi : Nat → Nat → Int32} {ml : Nat → Nat → Int64} {d : Nat} {Q : Option Value → xM → Prop} {x1 x2 x3 : Int32} {ry : Nat} {n_ry : Nat} (hS_ry : isStrip L ry n_ry) : X 100 8 [.ref 2, .int x1, .int x2, .int x3, xmk, xmk] [.ref ry] (SH L, mi, ml, MR) (d + 1) Q =
    Xm 145 [.ref 2, .ref ry, .int x2] (SH L, mi, ml, MR) d (fun v μ' => X 100 24 [.ref 2, .int x1, .int x2, .int x3, .ref ry, xmk] (v.toList ++ []) μ' (d + 1) Q) := by
  refine (R_pure0 (ins := .astore 4) (len := 2) (loc' := [.ref 2, .int x1, .int x2, .int x3, .ref ry, xmk]) (st' := []) (by decide +kernel) (fun _ => rfl)).trans ?_
  refine (R_pure0 (ins := .aload 4) (len := 2) (loc' := [.ref 2, .int x1, .int x2, .int x3, .ref ry, xmk]) (st' := [.ref ry]) (by decide +kernel) (fun _ => rfl)).trans ?_
  refine (R_ifnonnull_r (off := 5) (t := 17) (by decide +kernel) (by decide +kernel)).trans ?_
  refine (R_pure0 (ins := .aload_n 0) (len := 1) (loc' := [.ref 2, .int x1, .int x2, .int x3, .ref ry, xmk]) (st' := [.ref 2]) (by decide +kernel) (fun _ => rfl)).trans ?_
  refine (R_pure0 (ins := .aload 4) (len := 2) (loc' := [.ref 2, .int x1, .int x2, .int x3, .ref ry, xmk]) (st' := [.ref ry, .ref 2]) (by decide +kernel) (fun _ => rfl)).trans ?_
  refine (R_pure0 (ins := .iload_n 2) (len := 1) (loc' := [.ref 2, .int x1, .int x2, .int x3, .ref ry, xmk]) (st' := [.int x2, .ref ry, .ref 2]) (by decide +kernel) (fun _ => rfl)).trans ?_
  refine (R_virt (i := 89) (f := 145) (kd := 0) (na := 2) (ml := 3) (ci := 9) (n := 12) (b := 2) (As := [.ref ry, .int x2]) (rest := []) (by decide +kernel) (by decide +kernel) (by decide) (by decide +kernel) rfl (by decide +kernel) rfl rfl (by decide +kernel) (Nat.le_of_ble_eq_true rfl)).trans ?_
  rfl
theorem s100_8n {L : Nat} {mi : Nat → Nat → Int32} {ml : Nat → Nat → Int64} {d : Nat} {Q : Option Value → xM → Prop} {x1 x2 x3 : Int32} : X 100 8 [.ref 2, .int x1, .int x2, .int x3, xmk, xmk] [.null] (SH L, mi, ml, MR) d Q =
    Q (some (.int (-1))) (SH L, mi, ml, MR) := by
  refine (R_pure0 (ins := .astore 4) (len := 2) (loc' := [.ref 2, .int x1, .int x2, .int x3, .null, xmk]) (st' := []) (by decide +kernel) (fun _ => rfl)).trans ?_
  refine (R_pure0 (ins := .aload 4) (len := 2) (loc' := [.ref 2, .int x1, .int x2, .int x3, .null, xmk]) (st' := [.null]) (by decide +kernel) (fun _ => rfl)).trans ?_
  refine (R_ifnonnull_n (off := 5) (by decide +kernel)).trans ?_
  refine (R_iconst (n := (-1)) (v := (-1)) (by decide +kernel) (by decide +kernel)).trans ?_
  exact R_ireturn (by decide +kernel) (by decide +kernel)
theorem s100_24 {L : Nat} {mi : Nat → Nat → Int32} {ml : Nat → Nat → Int64} {d : Nat} {Q : Option Value → xM → Prop} {x1 x2 x3 y : Int32} {r4 : Nat} {n_r4 : Nat} (hS_r4 : isStrip L r4 n_r4) : X 100 24 [.ref 2, .int x1, .int x2, .int x3, .ref r4, xmk] [.int y] (SH L, mi, ml, MR) (d + 1) Q =
    if (y = 0) then (Xm 90 [.ref r4, .int x2] (SH L, mi, ml, MR) d (fun v μ' => X 100 41 [.ref 2, .int x1, .int x2, .int x3, .ref r4, .int y] (v.toList ++ [.ref 2]) μ' (d + 1) Q)) else (Q (some (.int y)) (SH L, mi, ml, MR)) := by
  refine (R_pure0 (ins := .istore 5) (len := 2) (loc' := [.ref 2, .int x1, .int x2, .int x3, .ref r4, .int y]) (st' := []) (by decide +kernel) (fun _ => rfl)).trans ?_
  refine (R_pure0 (ins := .iload 5) (len := 2) (loc' := [.ref 2, .int x1, .int x2, .int x3, .ref r4, .int y]) (st' := [.int y]) (by decide +kernel) (fun _ => rfl)).trans ?_
  refine (R_if_eq (off := 6) (t := 34) (by decide +kernel) (by decide +kernel)).trans (ite_congr rfl (fun c0 => ?_) (fun c0 => ?_))
  · refine (R_pure0 (ins := .aload_n 0) (len := 1) (loc' := [.ref 2, .int x1, .int x2, .int x3, .ref r4, .int y]) (st' := [.ref 2]) (by decide +kernel) (fun _ => rfl)).trans ?_
    refine (R_pure0 (ins := .aload 4) (len := 2) (loc' := [.ref 2, .int x1, .int x2, .int x3, .ref r4, .int y]) (st' := [.ref r4, .ref 2]) (by decide +kernel) (fun _ => rfl)).trans ?_
    refine (R_pure0 (ins := .iload_n 2) (len := 1) (loc' := [.ref 2, .int x1, .int x2, .int x3, .ref r4, .int y]) (st' := [.int x2, .ref r4, .ref 2]) (by decide +kernel) (fun _ => rfl)).trans ?_
    refine (R_virt (i := 93) (f := 90) (kd := 0) (na := 1) (ml := 2) (ci := 8) (n := 2) (b := r4) (As := [.int x2]) (rest := [.ref 2]) (by decide +kernel) (by decide +kernel) (by decide) (by decide +kernel) rfl (by decide +kernel) hS_r4.1 rfl (by decide +kernel) (Nat.le_of_ble_eq_true rfl)).trans ?_
    rfl
  · refine (R_pure0 (ins := .iload 5) (len := 2) (loc' := [.ref 2, .int x1, .int x2, .int x3, .ref r4, .int y]) (st' := [.int y]) (by decide +kernel) (fun _ => rfl)).trans ?_
    exact R_ireturn (by decide +kernel) (by decide +kernel)
theorem s100_41 {L : Nat} {mi : Nat → Nat → Int32} {ml : Nat → Nat → Int64} {d : Nat} {Q : Option Value → xM → Prop} {x1 x2 x3 x5 y : Int32} {r4 : Nat} {n_r4 : Nat} (hS_r4 : isStrip L r4 n_r4) : X 100 41 [.ref 2, .int x1, .int x2, .int x3, .ref r4, .int x5] [.int y, .ref 2] (SH L, mi, ml, MR) (d + 1) Q =
    Xm 91 [.ref r4, .int x2, .int x3] (SH L, (xw mi 2 11 y), ml, MR) d (fun v μ' => X 100 51 [.ref 2, .int x1, .int x2, .int x3, .ref r4, .int x5] (v.toList ++ []) μ' (d + 1) Q) := by
  refine (R_pi (i := 78) (ci := 9) (k := 11) (n := 12) (by decide +kernel) (by decide +kernel) (by decide) rfl).trans ?_
  refine (R_pure0 (ins := .aload 4) (len := 2) (loc' := [.ref 2, .int x1, .int x2, .int x3, .ref r4, .int x5]) (st' := [.ref r4]) (by decide +kernel) (fun _ => rfl)).trans ?_
  refine (R_pure0 (ins := .iload_n 2) (len := 1) (loc' := [.ref 2, .int x1, .int x2, .int x3, .ref r4, .int x5]) (st' := [.int x2, .ref r4]) (by decide +kernel) (fun _ => rfl)).trans ?_
  refine (R_pure0 (ins := .iload_n 3) (len := 1) (loc' := [.ref 2, .int x1, .int x2, .int x3, .ref r4, .int x5]) (st' := [.int x3, .int x2, .ref r4]) (by decide +kernel) (fun _ => rfl)).trans ?_
  refine (R_virt (i := 99) (f := 91) (kd := 0) (na := 2) (ml := 3) (ci := 8) (n := 2) (b := r4) (As := [.int x2, .int x3]) (rest := []) (by decide +kernel) (by decide +kernel) (by decide) (by decide +kernel) rfl (by decide +kernel) hS_r4.1 rfl (by decide +kernel) (Nat.le_of_ble_eq_true rfl)).trans ?_
  rfl
theorem s100_51 {L : Nat} {mi : Nat → Nat → Int32} {ml : Nat → Nat → Int64} {d : Nat} {Q : Option Value → xM → Prop} {x1 x2 x3 x5 : Int32} {r4 : Nat} {n_r4 : Nat} (hS_r4 : isStrip L r4 n_r4) : X 100 51 [.ref 2, .int x1, .int x2, .int x3, .ref r4, .int x5] [] (SH L, mi, ml, MR) d Q =
    Q (some (.int 1)) (SH L, mi, ml, MR) := by
  refine (R_iconst (n := 1) (v := 1) (by decide +kernel) (by decide +kernel)).trans ?_
  exact R_ireturn (by decide +kernel) (by decide +kernel)
theorem s101 {L : Nat} {mi : Nat → Nat → Int32} {ml : Nat → Nat → Int64} {d : Nat} {Q : Option Value → xM → Prop} {x1 x2 : Int32} : Xm 101 [.ref 2, .int x1, .int x2] (SH L, mi, ml, MR) (d + 1) Q =
    Xm 82 [.ref 3, .int x1] (SH L, mi, ml, MR) d (fun v μ' => X 101 8 [.ref 2, .int x1, .int x2, xmk, xmk] (v.toList ++ []) μ' (d + 1) Q) := by
  rw [Xm_ent (n := 5) (loc := [.ref 2, .int x1, .int x2, xmk, xmk]) (by decide +kernel) rfl]
  refine (R_pure0 (ins := .aload_n 0) (len := 1) (loc' := [.ref 2, .int x1, .int x2, xmk, xmk]) (st' := [.ref 2]) (by decide +kernel) (fun _ => rfl)).trans ?_
  refine (R_gr (i := 14) (ci := 9) (k := 0) (n := 12) (b := 3) (by decide +kernel) (by decide +kernel) (by decide) rfl (SH_ref (by decide +kernel))).trans ?_
  refine (R_pure0 (ins := .iload_n 1) (len := 1) (loc' := [.ref 2, .int x1, .int x2, xmk, xmk]) (st' := [.int x1, .ref 3]) (by decide +kernel) (fun _ => rfl)).trans ?_
  refine (R_virt (i := 81) (f := 82) (kd := 0) (na := 1) (ml := 2) (ci := 7) (n := 1) (b := 3) (As := [.int x1]) (rest := []) (by decide +kernel) (by decide +kernel) (by decide) (by decide +kernel) rfl (by decide +kernel) rfl rfl (by decide +kernel) (Nat.le_of_ble_eq_true rfl)).trans ?_
  rfl
theorem s101_8 {L : Nat} {mi : Nat → Nat → Int32} {ml : Nat → Nat → Int64} {d : Nat} {Q : Option Value → xM → Prop} {x1 x2 : Int32} {ry : Nat} {n_ry : Nat} (hS_ry : isStrip L ry n_ry) : X 101 8 [.ref 2, .int x1, .int x2, xmk, xmk] [.ref ry] (SH L, mi, ml, MR) (d + 1) Q =
    Xm 145 [.ref 2, .ref ry, .int x2] (SH L, mi, ml, MR) d (fun v μ' => X 101 21 [.ref 2, .int x1, .int x2, .ref ry, xmk] (v.toList ++ []) μ' (d + 1) Q) := by
  refine (R_pure0 (ins := .astore_n 3) (len := 1) (loc' := [.ref 2, .int x1, .int x2, .ref ry, xmk]) (st' := []) (by decide +kernel) (fun _ => rfl)).trans ?_
  refine (R_pure0 (ins := .aload_n 3) (len := 1) (loc' := [.ref 2, .int x1, .int x2, .ref ry, xmk]) (st' := [.ref ry]) (by decide +kernel) (fun _ => rfl)).trans ?_
  refine (R_ifnonnull_r (off := 5) (t := 15) (by decide +kernel) (by decide +kernel)).trans ?_
  refine (R_pure0 (ins := .aload_n 0) (len := 1) (loc' := [.ref 2, .int x1, .int x2, .ref ry, xmk]) (st' := [.ref 2]) (by decide +kernel) (fun _ => rfl)).trans ?_
  refine (R_pure0 (ins := .aload_n 3) (len := 1) (loc' := [.ref 2, .int x1, .int x2, .ref ry, xmk]) (st' := [.ref ry, .ref 2]) (by decide +kernel) (fun _ => rfl)).trans ?_
  refine (R_pure0 (ins := .iload_n 2) (len := 1) (loc' := [.ref 2, .int x1, .int x2, .ref ry, xmk]) (st' := [.int x2, .ref ry, .ref 2]) (by decide +kernel) (fun _ => rfl)).trans ?_
  refine (R_virt (i := 89) (f := 145) (kd := 0) (na := 2) (ml := 3) (ci := 9) (n := 12) (b := 2) (As := [.ref ry, .int x2]) (rest := []) (by decide +kernel) (by decide +kernel) (by decide) (by decide +kernel) rfl (by decide +kernel) rfl rfl (by decide +kernel) (Nat.le_of_ble_eq_true rfl)).trans ?_
  rfl
theorem s101_8n {L : Nat} {mi : Nat → Nat → Int32} {ml : Nat → Nat → Int64} {d : Nat} {Q : Option Value → xM → Prop} {x1 x2 : Int32} : X 101 8 [.ref 2, .int x1, .int x2, xmk, xmk] [.null] (SH L, mi, ml, MR) d Q =
    Q (some (.int (-1))) (SH L, mi, ml, MR) := by
  refine (R_pure0 (ins := .astore_n 3) (len := 1) (loc' := [.ref 2, .int x1, .int x2, .null, xmk]) (st' := []) (by decide +kernel) (fun _ => rfl)).trans ?_
  refine (R_pure0 (ins := .aload_n 3) (len := 1) (loc' := [.ref 2, .int x1, .int x2, .null, xmk]) (st' := [.null]) (by decide +kernel) (fun _ => rfl)).trans ?_
  refine (R_ifnonnull_n (off := 5) (by decide +kernel)).trans ?_
  refine (R_iconst (n := (-1)) (v := (-1)) (by decide +kernel) (by decide +kernel)).trans ?_
  exact R_ireturn (by decide +kernel) (by decide +kernel)
theorem s101_21 {L : Nat} {mi : Nat → Nat → Int32} {ml : Nat → Nat → Int64} {d : Nat} {Q : Option Value → xM → Prop} {x1 x2 y : Int32} {r3 : Nat} {n_r3 : Nat} (hS_r3 : isStrip L r3 n_r3) : X 101 21 [.ref 2, .int x1, .int x2, .ref r3, xmk] [.int y] (SH L, mi, ml, MR) (d + 1) Q =
    if (y = 0) then (Xm 90 [.ref r3, .int x2] (SH L, mi, ml, MR) d (fun v μ' => X 101 37 [.ref 2, .int x1, .int x2, .ref r3, .int y] (v.toList ++ [.ref 2]) μ' (d + 1) Q)) else (Q (some (.int y)) (SH L, mi, ml, MR)) := by
  refine (R_pure0 (ins := .istore 4) (len := 2) (loc' := [.ref 2, .int x1, .int x2, .ref r3, .int y]) (st' := []) (by decide +kernel) (fun _ => rfl)).trans ?_
  refine (R_pure0 (ins := .iload 4) (len := 2) (loc' := [.ref 2, .int x1, .int x2, .ref r3, .int y]) (st' := [.int y]) (by decide +kernel) (fun _ => rfl)).trans ?_
  refine (R_if_eq (off := 6) (t := 31) (by decide +kernel) (by decide +kernel)).trans (ite_congr rfl (fun c0 => ?_) (fun c0 => ?_))
  · refine (R_pure0 (ins := .aload_n 0) (len := 1) (loc' := [.ref 2, .int x1, .int x2, .ref r3, .int y]) (st' := [.ref 2]) (by decide +kernel) (fun _ => rfl)).trans ?_
    refine (R_pure0 (ins := .aload_n 3) (len := 1) (loc' := [.ref 2, .int x1, .int x2, .ref r3, .int y]) (st' := [.ref r3, .ref 2]) (by decide +kernel) (fun _ => rfl)).trans ?_
    refine (R_pure0 (ins := .iload_n 2) (len := 1) (loc' := [.ref 2, .int x1, .int x2, .ref r3, .int y]) (st' := [.int x2, .ref r3, .ref 2]) (by decide +kernel) (fun _ => rfl)).trans ?_
    refine (R_virt (i := 93) (f := 90) (kd := 0) (na := 1) (ml := 2) (ci := 8) (n := 2) (b := r3) (As := [.int x2]) (rest := [.ref 2]) (by decide +kernel) (by decide +kernel) (by decide) (by decide +kernel) rfl (by decide +kernel) hS_r3.1 rfl (by decide +kernel) (Nat.le_of_ble_eq_true rfl)).trans ?_
    rfl
  · refine (R_pure0 (ins := .iload 4) (len := 2) (loc' := [.ref 2, .int x1, .int x2, .ref r3, .int y]) (st' := [.int y]) (by decide +kernel) (fun _ => rfl)).trans ?_
    exact R_ireturn (by decide +kernel) (by decide +kernel)
theorem s101_37 {L : Nat} {mi : Nat → Nat → Int32} {ml : Nat → Nat → Int64} {d : Nat} {Q : Option Value → xM → Prop} {x1 x2 x4 y : Int32} {r3 : Nat} {n_r3 : Nat} (hS_r3 : isStrip L r3 n_r3) : X 101 37 [.ref 2, .int x1, .int x2, .ref r3, .int x4] [.int y, .ref 2] (SH L, mi, ml, MR) d Q =
    Q (some (.int 1)) (SH L, (xw mi 2 11 y), ml, MR) := by
  refine (R_pi (i := 78) (ci := 9) (k := 11) (n := 12) (by decide +kernel) (by decide +kernel) (by decide) rfl).trans ?_
  refine (R_iconst (n := 1) (v := 1) (by decide +kernel) (by decide +kernel)).trans ?_
  exact R_ireturn (by decide +kernel) (by decide +kernel)
theorem s102 {L : Nat} {mi : Nat → Nat → Int32} {ml : Nat → Nat → Int64} {d : Nat} {Q : Option Value → xM → Prop} {x1 : Int32} : Xm 102 [.ref 2, .int x1] (SH L, mi, ml, MR) (d + 1) Q =
    Xm 82 [.ref 3, .int x1] (SH L, mi, ml, MR) d (fun v μ' => X 102 8 [.ref 2, .int x1, xmk] (v.toList ++ []) μ' (d + 1) Q) := by
  rw [Xm_ent (n := 3) (loc := [.ref 2, .int x1, xmk]) (by decide +kernel) rfl]
  refine (R_pure0 (ins := .aload_n 0) (len := 1) (loc' := [.ref 2, .int x1, xmk]) (st' := [.ref 2]) (by decide +kernel) (fun _ => rfl)).trans ?_
  refine (R_gr (i := 14) (ci := 9) (k := 0) (n := 12) (b := 3) (by decide +kernel) (by decide +kernel) (by decide) rfl (SH_ref (by decide +kernel))).trans ?_
  refine (R_pure0 (ins := .iload_n 1) (len := 1) (loc' := [.ref 2, .int x1, xmk]) (st' := [.int x1, .ref 3]) (by decide +kernel) (fun _ => rfl)).trans ?_
  refine (R_virt (i := 81) (f := 82) (kd := 0) (na := 1) (ml := 2) (ci := 7) (n := 1) (b := 3) (As := [.int x1]) (rest := []) (by decide +kernel) (by decide +kernel) (by decide) (by decide +kernel) rfl (by decide +kernel) rfl rfl (by decide +kernel) (Nat.le_of_ble_eq_true rfl)).trans ?_
  rfl
theorem s102_8 {L : Nat} {mi : Nat → Nat → Int32} {ml : Nat → Nat → Int64} {d : Nat} {Q : Option Value → xM → Prop} {x1 : Int32} {ry : Nat} {n_ry : Nat} (hS_ry : isStrip L ry n_ry) : X 102 8 [.ref 2, .int x1, xmk] [.ref ry] (SH L, mi, ml, MR) (d + 1) Q =
    Xm 87 [.ref ry] (SH L, mi, ml, MR) d (fun v μ' => X 102 19 [.ref 2, .int x1, .ref ry] (v.toList ++ []) μ' (d + 1) Q) := by
  refine (R_pure0 (ins := .astore_n 2) (len := 1) (loc' := [.ref 2, .int x1, .ref ry]) (st' := []) (by decide +kernel) (fun _ => rfl)).trans ?_
  refine (R_pure0 (ins := .aload_n 2) (len := 1) (loc' := [.ref 2, .int x1, .ref ry]) (st' := [.ref ry]) (by decide +kernel) (fun _ => rfl)).trans ?_
  refine (R_ifnonnull_r (off := 5) (t := 15) (by decide +kernel) (by decide +kernel)).trans ?_
  refine (R_pure0 (ins := .aload_n 2) (len := 1) (loc' := [.ref 2, .int x1, .ref ry]) (st' := [.ref ry]) (by decide +kernel) (fun _ => rfl)).trans ?_
  refine (R_virt (i := 102) (f := 87) (kd := 0) (na := 0) (ml := 1) (ci := 8) (n := 2) (b := ry) (As := []) (rest := []) (by decide +kernel) (by decide +kernel) (by decide) (by decide +kernel) rfl (by decide +kernel) hS_ry.1 rfl (by decide +kernel) (Nat.le_of_ble_eq_true rfl)).trans ?_
  rfl
theorem s102_8n {L : Nat} {mi : Nat → Nat → Int32} {ml : Nat → Nat → Int64} {d : Nat} {Q : Option Value → xM → Prop} {x1 : Int32} : X 102 8 [.ref 2, .int x1, xmk] [.null] (SH L, mi, ml, MR) d Q =
    Q (some (.int (-1))) (SH L, mi, ml, MR) := by
  refine (R_pure0 (ins := .astore_n 2) (len := 1) (loc' := [.ref 2, .int x1, .null]) (st' := []) (by decide +kernel) (fun _ => rfl)).trans ?_
  refine (R_pure0 (ins := .aload_n 2) (len := 1) (loc' := [.ref 2, .int x1, .null]) (st' := [.null]) (by decide +kernel) (fun _ => rfl)).trans ?_
  refine (R_ifnonnull_n (off := 5) (by decide +kernel)).trans ?_
  refine (R_iconst (n := (-1)) (v := (-1)) (by decide +kernel) (by decide +kernel)).trans ?_
  exact R_ireturn (by decide +kernel) (by decide +kernel)
theorem s102_19 {L : Nat} {mi : Nat → Nat → Int32} {ml : Nat → Nat → Int64} {d : Nat} {Q : Option Value → xM → Prop} {x1 y : Int32} {r2 : Nat} {n_r2 : Nat} (hS_r2 : isStrip L r2 n_r2) : X 102 19 [.ref 2, .int x1, .ref r2] [.int y] (SH L, mi, ml, MR) (d + 1) Q =
    if (y = 0) then (Xm 95 [.ref r2] (SH L, mi, ml, MR) d (fun v μ' => X 102 32 [.ref 2, .int x1, .ref r2] (v.toList ++ []) μ' (d + 1) Q)) else (Xm 141 [.ref 2, .int 1] (SH L, mi, ml, MR) d (fun v μ' => X 102 27 [.ref 2, .int x1, .ref r2] (v.toList ++ []) μ' (d + 1) Q)) := by
  refine (R_if_eq (off := 9) (t := 28) (by decide +kernel) (by decide +kernel)).trans (ite_congr rfl (fun c0 => ?_) (fun c0 => ?_))
  · refine (R_pure0 (ins := .aload_n 2) (len := 1) (loc' := [.ref 2, .int x1, .ref r2]) (st' := [.ref r2]) (by decide +kernel) (fun _ => rfl)).trans ?_
    refine (R_virt (i := 109) (f := 95) (kd := 0) (na := 0) (ml := 1) (ci := 8) (n := 2) (b := r2) (As := []) (rest := []) (by decide +kernel) (by decide +kernel) (by decide) (by decide +kernel) rfl (by decide +kernel) hS_r2.1 rfl (by decide +kernel) (Nat.le_of_ble_eq_true rfl)).trans ?_
    rfl
  · refine (R_pure0 (ins := .aload_n 0) (len := 1) (loc' := [.ref 2, .int x1, .ref r2]) (st' := [.ref 2]) (by decide +kernel) (fun _ => rfl)).trans ?_
    refine (R_iconst (n := 1) (v := 1) (by decide +kernel) (by decide +kernel)).trans ?_
    refine (R_virt (i := 106) (f := 141) (kd := 0) (na := 1) (ml := 2) (ci := 9) (n := 12) (b := 2) (As := [.int 1]) (rest := []) (by decide +kernel) (by decide +kernel) (by decide) (by decide +kernel) rfl (by decide +kernel) rfl rfl (by decide +kernel) (Nat.le_of_ble_eq_true rfl)).trans ?_
    rfl
theorem s102_32 {L : Nat} {mi : Nat → Nat → Int32} {ml : Nat → Nat → Int64} {d : Nat} {Q : Option Value → xM → Prop} {x1 : Int32} {r2 : Nat} {n_r2 : Nat} (hS_r2 : isStrip L r2 n_r2) : X 102 32 [.ref 2, .int x1, .ref r2] [] (SH L, mi, ml, MR) d Q =
    Q (some (.int 1)) (SH L, mi, ml, MR) := by
  refine (R_iconst (n := 1) (v := 1) (by decide +kernel) (by decide +kernel)).trans ?_
  exact R_ireturn (by decide +kernel) (by decide +kernel)
theorem s102_27 {L : Nat} {mi : Nat → Nat → Int32} {ml : Nat → Nat → Int64} {d : Nat} {Q : Option Value → xM → Prop} {x1 y : Int32} {r2 : Nat} {n_r2 : Nat} (hS_r2 : isStrip L r2 n_r2) : X 102 27 [.ref 2, .int x1, .ref r2] [.int y] (SH L, mi, ml, MR) d Q =
    Q (some (.int y)) (SH L, mi, ml, MR) := by
  exact R_ireturn (by decide +kernel) (by decide +kernel)
theorem s103 {L : Nat} {mi : Nat → Nat → Int32} {ml : Nat → Nat → Int64} {d : Nat} {Q : Option Value → xM → Prop} {x1 x2 x3 x4 x5 : Int32} : Xm 103 [.ref 2, .int x1, .int x2, .int x3, .int x4, .int x5] (SH L, mi, ml, MR) (d + 1) Q =
    Xm 82 [.ref 3, .int x1] (SH L, mi, ml, MR) d (fun v μ' => X 103 8 [.ref 2, .int x1, .int x2, .int x3, .int x4, .int x5, xmk, xmk] (v.toList ++ []) μ' (d + 1) Q) := by
  rw [Xm_ent (n := 8) (loc := [.ref 2, .int x1, .int x2, .int x3, .int x4, .int x5, xmk, xmk]) (by decide +kernel) rfl]
  refine (R_pure0 (ins := .aload_n 0) (len := 1) (loc' := [.ref 2, .int x1, .int x2, .int x3, .int x4, .int x5, xmk, xmk]) (st' := [.ref 2]) (by decide +kernel) (fun _ => rfl)).trans ?_
  refine (R_gr (i := 14) (ci := 9) (k := 0) (n := 12) (b := 3) (by decide +kernel) (by decide +kernel) (by decide) rfl (SH_ref (by decide +kernel))).trans ?_
  refine (R_pure0 (ins := .iload_n 1) (len := 1) (loc' := [.ref 2, .int x1, .int x2, .int x3, .int x4, .int x5, xmk, xmk]) (st' := [.int x1, .ref 3]) (by decide +kernel) (fun _ => rfl)).trans ?_
  refine (R_virt (i := 81) (f := 82) (kd := 0) (na := 1) (ml := 2) (ci := 7) (n := 1) (b := 3) (As := [.int x1]) (rest := []) (by decide +kernel) (by decide +kernel) (by decide) (by decide +kernel) rfl (by decide +kernel) rfl rfl (by decide +kernel) (Nat.le_of_ble_eq_true rfl)).trans ?_
  rfl
theorem s103_8 {L : Nat} {mi : Nat → Nat → Int32} {ml : Nat → Nat → Int64} {d : Nat} {Q : Option Value → xM → Prop} {x1 x2 x3 x4 x5 : Int32} {ry : Nat} {n_ry : Nat} (hS_ry : isStrip L ry n_ry) : X 103 8 [.ref 2, .int x1, .int x2, .int x3, .int x4, .int x5, xmk, xmk] [.ref ry] (SH L, mi, ml, MR) (d + 1) Q =
    Xm 82 [.ref 3, .int x3] (SH L, mi, ml, MR) d (fun v μ' => X 103 18 [.ref 2, .int x1, .int x2, .int x3, .int x4, .int x5, .ref ry, xmk] (v.toList ++ []) μ' (d + 1) Q) := by
  refine (R_pure0 (ins := .astore 6) (len := 2) (loc' := [.ref 2, .int x1, .int x2, .int x3, .int x4, .int x5, .ref ry, xmk]) (st' := []) (by decide +kernel) (fun _ => rfl)).trans ?_
  refine (R_pure0 (ins := .aload_n 0) (len := 1) (loc' := [.ref 2, .int x1, .int x2, .int x3, .int x4, .int x5, .ref ry, xmk]) (st' := [.ref 2]) (by decide +kernel) (fun _ => rfl)).trans ?_
  refine (R_gr (i := 14) (ci := 9) (k := 0) (n := 12) (b := 3) (by decide +kernel) (by decide +kernel) (by decide) rfl (SH_ref (by decide +kernel))).trans ?_
  refine (R_pure0 (ins := .iload_n 3) (len := 1) (loc' := [.ref 2, .int x1, .int x2, .int x3, .int x4, .int x5, .ref ry, xmk]) (st' := [.int x3, .ref 3]) (by decide +kernel) (fun _ => rfl)).trans ?_
  refine (R_virt (i := 81) (f := 82) (kd := 0) (na := 1) (ml := 2) (ci := 7) (n := 1) (b := 3) (As := [.int x3]) (rest := []) (by decide +kernel) (by decide +kernel) (by decide) (by decide +kernel) rfl (by decide +kernel) rfl rfl (by decide +kernel) (Nat.le_of_ble_eq_true rfl)).trans ?_
  rfl
theorem s103_8n {L : Nat} {mi : Nat → Nat → Int32} {ml : Nat → Nat → Int64} {d : Nat} {Q : Option Value → xM → Prop} {x1 x2 x3 x4 x5 : Int32} : X 103 8 [.ref 2, .int x1, .int x2, .int x3, .int x4, .int x5, xmk, xmk] [.null] (SH L, mi, ml, MR) (d + 1) Q =
    Xm 82 [.ref 3, .int x3] (SH L, mi, ml, MR) d (fun v μ' => X 103 18 [.ref 2, .int x1, .int x2, .int x3, .int x4, .int x5, .null, xmk] (v.toList ++ []) μ' (d + 1) Q) := by
  refine (R_pure0 (ins := .astore 6) (len := 2) (loc' := [.ref 2, .int x1, .int x2, .int x3, .int x4, .int x5, .null, xmk]) (st' := []) (by decide +kernel) (fun _ => rfl)).trans ?_
  refine (R_pure0 (ins := .aload_n 0) (len := 1) (loc' := [.ref 2, .int x1, .int x2, .int x3, .int x4, .int x5, .null, xmk]) (st' := [.ref 2]) (by decide +kernel) (fun _ => rfl)).trans ?_
  refine (R_gr (i := 14) (ci := 9) (k := 0) (n := 12) (b := 3) (by decide +kernel) (by decide +kernel) (by decide) rfl (SH_ref (by decide +kernel))).trans ?_
  refine (R_pure0 (ins := .iload_n 3) (len := 1) (loc' := [.ref 2, .int x1, .int x2, .int x3, .int x4, .int x5, .null, xmk]) (st' := [.int x3, .ref 3]) (by decide +kernel) (fun _ => rfl)).trans ?_
  refine (R_virt (i := 81) (f := 82) (kd := 0) (na := 1) (ml := 2) (ci := 7) (n := 1) (b := 3) (As := [.int x3]) (rest := []) (by decide +kernel) (by decide +kernel) (by decide) (by decide +kernel) rfl (by decide +kernel) rfl rfl (by decide +kernel) (Nat.le_of_ble_eq_true rfl)).trans ?_
  rfl
theorem s103_18 {L : Nat} {mi : Nat → Nat → Int32} {ml : Nat → Nat → Int64} {d : Nat} {Q : Option Value → xM → Prop} {x1 x2 x3 x4 x5 : Int32} {r6 ry : Nat} {n_r6 : Nat} {n_ry : Nat} (hS_r6 : isStrip L r6 n_r6) (hS_ry : isStrip L ry n_ry) : X 103 18 [.ref 2, .int x1, .int x2, .int x3, .int x4, .int x5, .ref r6, xmk] [.ref ry] (SH L, mi, ml, MR) (d + 1) Q =
    if (x5 < 0) then (Xm 141 [.ref 2, .int 5] (SH L, mi, ml, MR) d (fun v μ' => X 103 42 [.ref 2, .int x1, .int x2, .int x3, .int x4, .int x5, .ref r6, .ref ry] (v.toList ++ []) μ' (d + 1) Q)) else (Xm 87 [.ref r6] (SH L, mi, ml, MR) d (fun v μ' => X 103 48 [.ref 2, .int x1, .int x2, .int x3, .int x4, .int x5, .ref r6, .ref ry] (v.toList ++ []) μ' (d + 1) Q)) := by
  refine (R_pure0 (ins := .astore 7) (len := 2) (loc' := [.ref 2, .int x1, .int x2, .int x3, .int x4, .int x5, .ref r6, .ref ry]) (st' := []) (by decide +kernel) (fun _ => rfl)).trans ?_
  refine (R_pure0 (ins := .aload 6) (len := 2) (loc' := [.ref 2, .int x1, .int x2, .int x3, .int x4, .int x5, .ref r6, .ref ry]) (st' := [.ref r6]) (by decide +kernel) (fun _ => rfl)).trans ?_
  refine (R_ifnull_r (off := 8) (by decide +kernel)).trans ?_
  refine (R_pure0 (ins := .aload 7) (len := 2) (loc' := [.ref 2, .int x1, .int x2, .int x3, .int x4, .int x5, .ref r6, .ref ry]) (st' := [.ref ry]) (by decide +kernel) (fun _ => rfl)).trans ?_
  refine (R_ifnonnull_r (off := 5) (t := 32) (by decide +kernel) (by decide +kernel)).trans ?_
  refine (R_pure0 (ins := .iload 5) (len := 2) (loc' := [.ref 2, .int x1, .int x2, .int x3, .int x4, .int x5, .ref r6, .ref ry]) (st' := [.int x5]) (by decide +kernel) (fun _ => rfl)).trans ?_
  refine (R_if_ge (off := 9) (t := 43) (by decide +kernel) (by decide +kernel)).trans (ite_congr rfl (fun c0 => ?_) (fun c0 => ?_))
  · refine (R_pure0 (ins := .aload_n 0) (len := 1) (loc' := [.ref 2, .int x1, .int x2, .int x3, .int x4, .int x5, .ref r6, .ref ry]) (st' := [.ref 2]) (by decide +kernel) (fun _ => rfl)).trans ?_
    refine (R_iconst (n := 5) (v := 5) (by decide +kernel) (by decide +kernel)).trans ?_
    refine (R_virt (i := 106) (f := 141) (kd := 0) (na := 1) (ml := 2) (ci := 9) (n := 12) (b := 2) (As := [.int 5]) (rest := []) (by decide +kernel) (by decide +kernel) (by decide) (by decide +kernel) rfl (by decide +kernel) rfl rfl (by decide +kernel) (Nat.le_of_ble_eq_true rfl)).trans ?_
    rfl
  · refine (R_pure0 (ins := .aload 6) (len := 2) (loc' := [.ref 2, .int x1, .int x2, .int x3, .int x4, .int x5, .ref r6, .ref ry]) (st' := [.ref r6]) (by decide +kernel) (fun _ => rfl)).trans ?_
    refine (R_virt (i := 102) (f := 87) (kd := 0) (na := 0) (ml := 1) (ci := 8) (n := 2) (b := r6) (As := []) (rest := []) (by decide +kernel) (by decide +kernel) (by decide) (by decide +kernel) rfl (by decide +kernel) hS_r6.1 rfl (by decide +kernel) (Nat.le_of_ble_eq_true rfl)).trans ?_
    rfl
theorem s103_18n {L : Nat} {mi : Nat → Nat → Int32} {ml : Nat → Nat → Int64} {d : Nat} {Q : Option Value → xM → Prop} {x1 x2 x3 x4 x5 : Int32} {r6 : Nat} {n_r6 : Nat} (hS_r6 : isStrip L r6 n_r6) : X 103 18 [.ref 2, .int x1, .int x2, .int x3, .int x4, .int x5, .ref r6, xmk] [.null] (SH L, mi, ml, MR) d Q =
    Q (some (.int (-1))) (SH L, mi, ml, MR) := by
  refine (R_pure0 (ins := .astore 7) (len := 2) (loc' := [.ref 2, .int x1, .int x2, .int x3, .int x4, .int x5, .ref r6, .null]) (st' := []) (by decide +kernel) (fun _ => rfl)).trans ?_
  refine (R_pure0 (ins := .aload 6) (len := 2) (loc' := [.ref 2, .int x1, .int x2, .int x3, .int x4, .int x5, .ref r6, .null]) (st' := [.ref r6]) (by decide +kernel) (fun _ => rfl)).trans ?_
  refine (R_ifnull_r (off := 8) (by decide +kernel)).trans ?_
  refine (R_pure0 (ins := .aload 7) (len := 2) (loc' := [.ref 2, .int x1, .int x2, .int x3, .int x4, .int x5, .ref r6, .null]) (st' := [.null]) (by decide +kernel) (fun _ => rfl)).trans ?_
  refine (R_ifnonnull_n (off := 5) (by decide +kernel)).trans ?_
  refine (R_iconst (n := (-1)) (v := (-1)) (by decide +kernel) (by decide +kernel)).trans ?_
  exact R_ireturn (by decide +kernel) (by decide +kernel)
theorem s103_18v2 {L : Nat} {mi : Nat → Nat → Int32} {ml : Nat → Nat → Int64} {d : Nat} {Q : Option Value → xM → Prop} {x1 x2 x3 x4 x5 : Int32} {ry : Nat} {n_ry : Nat} (hS_ry : isStrip L ry n_ry) : X 103 18 [.ref 2, .int x1, .int x2, .int x3, .int x4, .int x5, .null, xmk] [.ref ry] (SH L, mi, ml, MR) d Q =
    Q (some (.int (-1))) (SH L, mi, ml, MR) := by
  refine (R_pure0 (ins := .astore 7) (len := 2) (loc' := [.ref 2, .int x1, .int x2, .int x3, .int x4, .int x5, .null, .ref ry]) (st' := []) (by decide +kernel) (fun _ => rfl)).trans ?_
  refine (R_pure0 (ins := .aload 6) (len := 2) (loc' := [.ref 2, .int x1, .int x2, .int x3, .int x4, .int x5, .null, .ref ry]) (st' := [.null]) (by decide +kernel) (fun _ => rfl)).trans ?_
  refine (R_ifnull_n (off := 8) (t := 30) (by decide +kernel) (by decide +kernel)).trans ?_
  refine (R_iconst (n := (-1)) (v := (-1)) (by decide +kernel) (by decide +kernel)).trans ?_
  exact R_ireturn (by decide +kernel) (by decide +kernel)
theorem s103_18nv2 {L : Nat} {mi : Nat → Nat → Int32} {ml : Nat → Nat → Int64} {d : Nat} {Q : Option Value → xM → Prop} {x1 x2 x3 x4 x5 : Int32} : X 103 18 [.ref 2, .int x1, .int x2, .int x3, .int x4, .int x5, .null, xmk] [.null] (SH L, mi, ml, MR) d Q =
    Q (some (.int (-1))) (SH L, mi, ml, MR) := by
  refine (R_pure0 (ins := .astore 7) (len := 2) (loc' := [.ref 2, .int x1, .int x2, .int x3, .int x4, .int x5, .null, .null]) (st' := []) (by decide +kernel) (fun _ => rfl)).trans ?_
  refine (R_pure0 (ins := .aload 6) (len := 2) (loc' := [.ref 2, .int x1, .int x2, .int x3, .int x4, .int x5, .null, .null]) (st' := [.null]) (by decide +kernel) (fun _ => rfl)).trans ?_
  refine (R_ifnull_n (off := 8) (t := 30) (by decide +kernel) (by decide +kernel)).trans ?_
  refine (R_iconst (n := (-1)) (v := (-1)) (by decide +kernel) (by decide +kernel)).trans ?_
  exact R_ireturn (by decide +kernel) (by decide +kernel)
theorem s103_42 {L : Nat} {mi : Nat → Nat → Int32} {ml : Nat → Nat → Int64} {d : Nat} {Q : Option Value → xM → Prop} {x1 x2 x3 x4 x5 y : Int32} {r6 r7 : Nat} {n_r6 : Nat} {n_r7 : Nat} (hS_r6 : isStrip L r6 n_r6) (hS_r7 : isStrip L r7 n_r7) : X 103 42 [.ref 2, .int x1, .int x2, .int x3, .int x4, .int x5, .ref r6, .ref r7] [.int y] (SH L, mi, ml, MR) d Q =
    Q (some (.int y)) (SH L, mi, ml, MR) := by
  exact R_ireturn (by decide +kernel) (by decide +kernel)
theorem s103_48 {L : Nat} {mi : Nat → Nat → Int32} {ml : Nat → Nat → Int64} {d : Nat} {Q : Option Value → xM → Prop} {x1 x2 x3 x4 x5 y : Int32} {r6 r7 : Nat} {n_r6 : Nat} {n_r7 : Nat} (hS_r6 : isStrip L r6 n_r6) (hS_r7 : isStrip L r7 n_r7) : X 103 48 [.ref 2, .int x1, .int x2, .int x3, .int x4, .int x5, .ref r6, .ref r7] [.int y] (SH L, mi, ml, MR) (d + 1) Q =
    if (y = 0) then (Xm 87 [.ref r7] (SH L, mi, ml, MR) d (fun v μ' => X 103 56 [.ref 2, .int x1, .int x2, .int x3, .int x4, .int x5, .ref r6, .ref r7] (v.toList ++ []) μ' (d + 1) Q)) else (Xm 141 [.ref 2, .int 1] (SH L, mi, ml, MR) d (fun v μ' => X 103 64 [.ref 2, .int x1, .int x2, .int x3, .int x4, .int x5, .ref r6, .ref r7] (v.toList ++ []) μ' (d + 1) Q)) := by
  refine (R_if_ne (off := 11) (t := 59) (by decide +kernel) (by decide +kernel)).trans (ite_congr rfl (fun c0 => ?_) (fun c0 => ?_))
  · refine (R_pure0 (ins := .aload 7) (len := 2) (loc' := [.ref 2, .int x1, .int x2, .int x3, .int x4, .int x5, .ref r6, .ref r7]) (st' := [.ref r7]) (by decide +kernel) (fun _ => rfl)).trans ?_
    refine (R_virt (i := 102) (f := 87) (kd := 0) (na := 0) (ml := 1) (ci := 8) (n := 2) (b := r7) (As := []) (rest := []) (by decide +kernel) (by decide +kernel) (by decide) (by decide +kernel) rfl (by decide +kernel) hS_r7.1 rfl (by decide +kernel) (Nat.le_of_ble_eq_true rfl)).trans ?_
    rfl
  · refine (R_pure0 (ins := .aload_n 0) (len := 1) (loc' := [.ref 2, .int x1, .int x2, .int x3, .int x4, .int x5, .ref r6, .ref r7]) (st' := [.ref 2]) (by decide +kernel) (fun _ => rfl)).trans ?_
    refine (R_iconst (n := 1) (v := 1) (by decide +kernel) (by decide +kernel)).trans ?_
    refine (R_virt (i := 106) (f := 141) (kd := 0) (na := 1) (ml := 2) (ci := 9) (n := 12) (b := 2) (As := [.int 1]) (rest := []) (by decide +kernel) (by decide +kernel) (by decide) (by decide +kernel) rfl (by decide +kernel) rfl rfl (by decide +kernel) (Nat.le_of_ble_eq_true rfl)).trans ?_
    rfl
theorem s103_56 {L : Nat} {mi : Nat → Nat → Int32} {ml : Nat → Nat → Int64} {d : Nat} {Q : Option Value → xM → Prop} {x1 x2 x3 x4 x5 y : Int32} {r6 r7 : Nat} {n_r6 : Nat} {n_r7 : Nat} (hS_r6 : isStrip L r6 n_r6) (hS_r7 : isStrip L r7 n_r7) : X 103 56 [.ref 2, .int x1, .int x2, .int x3, .int x4, .int x5, .ref r6, .ref r7] [.int y] (SH L, mi, ml, MR) (d + 1) Q =
    if (y = 0) then (Xm 89 [.ref r6, .int x2, .int x5] (SH L, mi, ml, MR) d (fun v μ' => X 103 73 [.ref 2, .int x1, .int x2, .int x3, .int x4, .int x5, .ref r6, .ref r7] (v.toList ++ []) μ' (d + 1) Q)) else (Xm 141 [.ref 2, .int 1] (SH L, mi, ml, MR) d (fun v μ' => X 103 64 [.ref 2, .int x1, .int x2, .int x3, .int x4, .int x5, .ref r6, .ref r7] (v.toList ++ []) μ' (d + 1) Q)) := by
  refine (R_if_eq (off := 9) (t := 65) (by decide +kernel) (by decide +kernel)).trans (ite_congr rfl (fun c0 => ?_) (fun c0 => ?_))
  · refine (R_pure0 (ins := .aload 6) (len := 2) (loc' := [.ref 2, .int x1, .int x2, .int x3, .int x4, .int x5, .ref r6, .ref r7]) (st' := [.ref r6]) (by decide +kernel) (fun _ => rfl)).trans ?_
    refine (R_pure0 (ins := .iload_n 2) (len := 1) (loc' := [.ref 2, .int x1, .int x2, .int x3, .int x4, .int x5, .ref r6, .ref r7]) (st' := [.int x2, .ref r6]) (by decide +kernel) (fun _ => rfl)).trans ?_
    refine (R_pure0 (ins := .iload 5) (len := 2) (loc' := [.ref 2, .int x1, .int x2, .int x3, .int x4, .int x5, .ref r6, .ref r7]) (st' := [.int x5, .int x2, .ref r6]) (by decide +kernel) (fun _ => rfl)).trans ?_
    refine (R_virt (i := 112) (f := 89) (kd := 0) (na := 2) (ml := 3) (ci := 8) (n := 2) (b := r6) (As := [.int x2, .int x5]) (rest := []) (by decide +kernel) (by decide +kernel) (by decide) (by decide +kernel) rfl (by decide +kernel) hS_r6.1 rfl (by decide +kernel) (Nat.le_of_ble_eq_true rfl)).trans ?_
    rfl
  · refine (R_pure0 (ins := .aload_n 0) (len := 1) (loc' := [.ref 2, .int x1, .int x2, .int x3, .int x4, .int x5, .ref r6, .ref r7]) (st' := [.ref 2]) (by decide +kernel) (fun _ => rfl)).trans ?_
    refine (R_iconst (n := 1) (v := 1) (by decide +kernel) (by decide +kernel)).trans ?_
    refine (R_virt (i := 106) (f := 141) (kd := 0) (na := 1) (ml := 2) (ci := 9) (n := 12) (b := 2) (As := [.int 1]) (rest := []) (by decide +kernel) (by decide +kernel) (by decide) (by decide +kernel) rfl (by decide +kernel) rfl rfl (by decide +kernel) (Nat.le_of_ble_eq_true rfl)).trans ?_
    rfl
theorem s103_64 {L : Nat} {mi : Nat → Nat → Int32} {ml : Nat → Nat → Int64} {d : Nat} {Q : Option Value → xM → Prop} {x1 x2 x3 x4 x5 y : Int32} {r6 r7 : Nat} {n_r6 : Nat} {n_r7 : Nat} (hS_r6 : isStrip L r6 n_r6) (hS_r7 : isStrip L r7 n_r7) : X 103 64 [.ref 2, .int x1, .int x2, .int x3, .int x4, .int x5, .ref r6, .ref r7] [.int y] (SH L, mi, ml, MR) d Q =
    Q (some (.int y)) (SH L, mi, ml, MR) := by
  exact R_ireturn (by decide +kernel) (by decide +kernel)
theorem s103_73 {L : Nat} {mi : Nat → Nat → Int32} {ml : Nat → Nat → Int64} {d : Nat} {Q : Option Value → xM → Prop} {x1 x2 x3 x4 x5 y : Int32} {r6 r7 : Nat} {n_r6 : Nat} {n_r7 : Nat} (hS_r6 : isStrip L r6 n_r6) (hS_r7 : isStrip L r7 n_r7) : X 103 73 [.ref 2, .int x1, .int x2, .int x3, .int x4, .int x5, .ref r6, .ref r7] [.int y] (SH L, mi, ml, MR) (d + 1) Q =
    if (y = 0) then (Xm 141 [.ref 2, .int 2] (SH L, mi, ml, MR) d (fun v μ' => X 103 93 [.ref 2, .int x1, .int x2, .int x3, .int x4, .int x5, .ref r6, .ref r7] (v.toList ++ []) μ' (d + 1) Q)) else (Xm 89 [.ref r7, .int x4, .int x5] (SH L, mi, ml, MR) d (fun v μ' => X 103 85 [.ref 2, .int x1, .int x2, .int x3, .int x4, .int x5, .ref r6, .ref r7] (v.toList ++ []) μ' (d + 1) Q)) := by
  refine (R_if_eq (off := 15) (t := 88) (by decide +kernel) (by decide +kernel)).trans (ite_congr rfl (fun c0 => ?_) (fun c0 => ?_))
  · refine (R_pure0 (ins := .aload_n 0) (len := 1) (loc' := [.ref 2, .int x1, .int x2, .int x3, .int x4, .int x5, .ref r6, .ref r7]) (st' := [.ref 2]) (by decide +kernel) (fun _ => rfl)).trans ?_
    refine (R_iconst (n := 2) (v := 2) (by decide +kernel) (by decide +kernel)).trans ?_
    refine (R_virt (i := 106) (f := 141) (kd := 0) (na := 1) (ml := 2) (ci := 9) (n := 12) (b := 2) (As := [.int 2]) (rest := []) (by decide +kernel) (by decide +kernel) (by decide) (by decide +kernel) rfl (by decide +kernel) rfl rfl (by decide +kernel) (Nat.le_of_ble_eq_true rfl)).trans ?_
    rfl
  · refine (R_pure0 (ins := .aload 7) (len := 2) (loc' := [.ref 2, .int x1, .int x2, .int x3, .int x4, .int x5, .ref r6, .ref r7]) (st' := [.ref r7]) (by decide +kernel) (fun _ => rfl)).trans ?_
    refine (R_pure0 (ins := .iload 4) (len := 2) (loc' := [.ref 2, .int x1, .int x2, .int x3, .int x4, .int x5, .ref r6, .ref r7]) (st' := [.int x4, .ref r7]) (by decide +kernel) (fun _ => rfl)).trans ?_
    refine (R_pure0 (ins := .iload 5) (len := 2) (loc' := [.ref 2, .int x1, .int x2, .int x3, .int x4, .int x5, .ref r6, .ref r7]) (st' := [.int x5, .int x4, .ref r7]) (by decide +kernel) (fun _ => rfl)).trans ?_
    refine (R_virt (i := 112) (f := 89) (kd := 0) (na := 2) (ml := 3) (ci := 8) (n := 2) (b := r7) (As := [.int x4, .int x5]) (rest := []) (by decide +kernel) (by decide +kernel) (by decide) (by decide +kernel) rfl (by decide +kernel) hS_r7.1 rfl (by decide +kernel) (Nat.le_of_ble_eq_true rfl)).trans ?_
    rfl
theorem s103_93 {L : Nat} {mi : Nat → Nat → Int32} {ml : Nat → Nat → Int64} {d : Nat} {Q : Option Value → xM → Prop} {x1 x2 x3 x4 x5 y : Int32} {r6 r7 : Nat} {n_r6 : Nat} {n_r7 : Nat} (hS_r6 : isStrip L r6 n_r6) (hS_r7 : isStrip L r7 n_r7) : X 103 93 [.ref 2, .int x1, .int x2, .int x3, .int x4, .int x5, .ref r6, .ref r7] [.int y] (SH L, mi, ml, MR) d Q =
    Q (some (.int y)) (SH L, mi, ml, MR) := by
  exact R_ireturn (by decide +kernel) (by decide +kernel)
theorem s103_85 {L : Nat} {mi : Nat → Nat → Int32} {ml : Nat → Nat → Int64} {d : Nat} {Q : Option Value → xM → Prop} {x1 x2 x3 x4 x5 y : Int32} {r6 r7 : Nat} {n_r6 : Nat} {n_r7 : Nat} (hS_r6 : isStrip L r6 n_r6) (hS_r7 : isStrip L r7 n_r7) : X 103 85 [.ref 2, .int x1, .int x2, .int x3, .int x4, .int x5, .ref r6, .ref r7] [.int y] (SH L, mi, ml, MR) (d + 1) Q =
    if (y = 0) then (Xm 141 [.ref 2, .int 2] (SH L, mi, ml, MR) d (fun v μ' => X 103 93 [.ref 2, .int x1, .int x2, .int x3, .int x4, .int x5, .ref r6, .ref r7] (v.toList ++ []) μ' (d + 1) Q)) else (Xm 96 [.ref r7, .ref r6, .int x2, .int x4, .int x5] (SH L, mi, ml, MR) d (fun v μ' => X 103 106 [.ref 2, .int x1, .int x2, .int x3, .int x4, .int x5, .ref r6, .ref r7] (v.toList ++ []) μ' (d + 1) Q)) := by
  refine (R_if_ne (off := 9) (t := 94) (by decide +kernel) (by decide +kernel)).trans (ite_congr rfl (fun c0 => ?_) (fun c0 => ?_))
  · refine (R_pure0 (ins := .aload_n 0) (len := 1) (loc' := [.ref 2, .int x1, .int x2, .int x3, .int x4, .int x5, .ref r6, .ref r7]) (st' := [.ref 2]) (by decide +kernel) (fun _ => rfl)).trans ?_
    refine (R_iconst (n := 2) (v := 2) (by decide +kernel) (by decide +kernel)).trans ?_
    refine (R_virt (i := 106) (f := 141) (kd := 0) (na := 1) (ml := 2) (ci := 9) (n := 12) (b := 2) (As := [.int 2]) (rest := []) (by decide +kernel) (by decide +kernel) (by decide) (by decide +kernel) rfl (by decide +kernel) rfl rfl (by decide +kernel) (Nat.le_of_ble_eq_true rfl)).trans ?_
    rfl
  · refine (R_pure0 (ins := .aload 7) (len := 2) (loc' := [.ref 2, .int x1, .int x2, .int x3, .int x4, .int x5, .ref r6, .ref r7]) (st' := [.ref r7]) (by decide +kernel) (fun _ => rfl)).trans ?_
    refine (R_pure0 (ins := .aload 6) (len := 2) (loc' := [.ref 2, .int x1, .int x2, .int x3, .int x4, .int x5, .ref r6, .ref r7]) (st' := [.ref r6, .ref r7]) (by decide +kernel) (fun _ => rfl)).trans ?_
    refine (R_pure0 (ins := .iload_n 2) (len := 1) (loc' := [.ref 2, .int x1, .int x2, .int x3, .int x4, .int x5, .ref r6, .ref r7]) (st' := [.int x2, .ref r6, .ref r7]) (by decide +kernel) (fun _ => rfl)).trans ?_
    refine (R_pure0 (ins := .iload 4) (len := 2) (loc' := [.ref 2, .int x1, .int x2, .int x3, .int x4, .int x5, .ref r6, .ref r7]) (st' := [.int x4, .int x2, .ref r6, .ref r7]) (by decide +kernel) (fun _ => rfl)).trans ?_
    refine (R_pure0 (ins := .iload 5) (len := 2) (loc' := [.ref 2, .int x1, .int x2, .int x3, .int x4, .int x5, .ref r6, .ref r7]) (st' := [.int x5, .int x4, .int x2, .ref r6, .ref r7]) (by decide +kernel) (fun _ => rfl)).trans ?_
    refine (R_virt (i := 116) (f := 96) (kd := 0) (na := 4) (ml := 5) (ci := 8) (n := 2) (b := r7) (As := [.ref r6, .int x2, .int x4, .int x5]) (rest := []) (by decide +kernel) (by decide +kernel) (by decide) (by decide +kernel) rfl (by decide +kernel) hS_r7.1 rfl (by decide +kernel) (Nat.le_of_ble_eq_true rfl)).trans ?_
    rfl
theorem s103_106 {L : Nat} {mi : Nat → Nat → Int32} {ml : Nat → Nat → Int64} {d : Nat} {Q : Option Value → xM → Prop} {x1 x2 x3 x4 x5 : Int32} {r6 r7 : Nat} {n_r6 : Nat} {n_r7 : Nat} (hS_r6 : isStrip L r6 n_r6) (hS_r7 : isStrip L r7 n_r7) : X 103 106 [.ref 2, .int x1, .int x2, .int x3, .int x4, .int x5, .ref r6, .ref r7] [] (SH L, mi, ml, MR) d Q =
    Q (some (.int 1)) (SH L, mi, ml, MR) := by
  refine (R_iconst (n := 1) (v := 1) (by decide +kernel) (by decide +kernel)).trans ?_
  exact R_ireturn (by decide +kernel) (by decide +kernel)
theorem s104 {L : Nat} {mi : Nat → Nat → Int32} {ml : Nat → Nat → Int64} {d : Nat} {Q : Option Value → xM → Prop} {x1 : Int32} : Xm 104 [.ref 2, .int x1] (SH L, mi, ml, MR) (d + 1) Q =
    Xm 82 [.ref 3, .int x1] (SH L, mi, ml, MR) d (fun v μ' => X 104 8 [.ref 2, .int x1, xmk, xmk, xmk, xmk, xmk] (v.toList ++ []) μ' (d + 1) Q) := by
  rw [Xm_ent (n := 7) (loc := [.ref 2, .int x1, xmk, xmk, xmk, xmk, xmk]) (by decide +kernel) rfl]
  refine (R_pure0 (ins := .aload_n 0) (len := 1) (loc' := [.ref 2, .int x1, xmk, xmk, xmk, xmk, xmk]) (st' := [.ref 2]) (by decide +kernel) (fun _ => rfl)).trans ?_
  refine (R_gr (i := 14) (ci := 9) (k := 0) (n := 12) (b := 3) (by decide +kernel) (by decide +kernel) (by decide) rfl (SH_ref (by decide +kernel))).trans ?_
  refine (R_pure0 (ins := .iload_n 1) (len := 1) (loc' := [.ref 2, .int x1, xmk, xmk, xmk, xmk, xmk]) (st' := [.int x1, .ref 3]) (by decide +kernel) (fun _ => rfl)).trans ?_
  refine (R_virt (i := 81) (f := 82) (kd := 0) (na := 1) (ml := 2) (ci := 7) (n := 1) (b := 3) (As := [.int x1]) (rest := []) (by decide +kernel) (by decide +kernel) (by decide) (by decide +kernel) rfl (by decide +kernel) rfl rfl (by decide +kernel) (Nat.le_of_ble_eq_true rfl)).trans ?_
  rfl
theorem s104_8 {L : Nat} {mi : Nat → Nat → Int32} {ml : Nat → Nat → Int64} {d : Nat} {Q : Option Value → xM → Prop} {x1 : Int32} {ry : Nat} {n_ry : Nat} (hS_ry : isStrip L ry n_ry) : X 104 8 [.ref 2, .int x1, xmk, xmk, xmk, xmk, xmk] [.ref ry] (SH L, mi, ml, MR) (d + 1) Q =
    Xm 87 [.ref ry] (SH L, mi, ml, MR) d (fun v μ' => X 104 19 [.ref 2, .int x1, .ref ry, xmk, xmk, xmk, xmk] (v.toList ++ []) μ' (d + 1) Q) := by
  refine (R_pure0 (ins := .astore_n 2) (len := 1) (loc' := [.ref 2, .int x1, .ref ry, xmk, xmk, xmk, xmk]) (st' := []) (by decide +kernel) (fun _ => rfl)).trans ?_
  refine (R_pure0 (ins := .aload_n 2) (len := 1) (loc' := [.ref 2, .int x1, .ref ry, xmk, xmk, xmk, xmk]) (st' := [.ref ry]) (by decide +kernel) (fun _ => rfl)).trans ?_
  refine (R_ifnonnull_r (off := 5) (t := 15) (by decide +kernel) (by decide +kernel)).trans ?_
  refine (R_pure0 (ins := .aload_n 2) (len := 1) (loc' := [.ref 2, .int x1, .ref ry, xmk, xmk, xmk, xmk]) (st' := [.ref ry]) (by decide +kernel) (fun _ => rfl)).trans ?_
  refine (R_virt (i := 102) (f := 87) (kd := 0) (na := 0) (ml := 1) (ci := 8) (n := 2) (b := ry) (As := []) (rest := []) (by decide +kernel) (by decide +kernel) (by decide) (by decide +kernel) rfl (by decide +kernel) hS_ry.1 rfl (by decide +kernel) (Nat.le_of_ble_eq_true rfl)).trans ?_
  rfl
theorem s104_8n {L : Nat} {mi : Nat → Nat → Int32} {ml : Nat → Nat → Int64} {d : Nat} {Q : Option Value → xM → Prop} {x1 : Int32} : X 104 8 [.ref 2, .int x1, xmk, xmk, xmk, xmk, xmk] [.null] (SH L, mi, ml, MR) d Q =
    Q (some (.int (-1))) (SH L, mi, ml, MR) := by
  refine (R_pure0 (ins := .astore_n 2) (len := 1) (loc' := [.ref 2, .int x1, .null, xmk, xmk, xmk, xmk]) (st' := []) (by decide +kernel) (fun _ => rfl)).trans ?_
  refine (R_pure0 (ins := .aload_n 2) (len := 1) (loc' := [.ref 2, .int x1, .null, xmk, xmk, xmk, xmk]) (st' := [.null]) (by decide +kernel) (fun _ => rfl)).trans ?_
  refine (R_ifnonnull_n (off := 5) (by decide +kernel)).trans ?_
  refine (R_iconst (n := (-1)) (v := (-1)) (by decide +kernel) (by decide +kernel)).trans ?_
  exact R_ireturn (by decide +kernel) (by decide +kernel)
theorem s104_19 {L : Nat} {mi : Nat → Nat → Int32} {ml : Nat → Nat → Int64} {d : Nat} {Q : Option Value → xM → Prop} {x1 y : Int32} {r2 : Nat} {n_r2 : Nat} (hS_r2 : isStrip L r2 n_r2) : X 104 19 [.ref 2, .int x1, .ref r2, xmk, xmk, xmk, xmk] [.int y] (SH L, mi, ml, MR) (d + 1) Q =
    if (y = 0) then (Xm 88 [.ref r2] (SH L, mi, ml, MR) d (fun v μ' => X 104 32 [.ref 2, .int x1, .ref r2, xmk, xmk, xmk, xmk] (v.toList ++ []) μ' (d + 1) Q)) else (Xm 141 [.ref 2, .int 1] (SH L, mi, ml, MR) d (fun v μ' => X 104 27 [.ref 2, .int x1, .ref r2, xmk, xmk, xmk, xmk] (v.toList ++ []) μ' (d + 1) Q)) := by
  refine (R_if_eq (off := 9) (t := 28) (by decide +kernel) (by decide +kernel)).trans (ite_congr rfl (fun c0 => ?_) (fun c0 => ?_))
  · refine (R_pure0 (ins := .aload_n 2) (len := 1) (loc' := [.ref 2, .int x1, .ref r2, xmk, xmk, xmk, xmk]) (st' := [.ref r2]) (by decide +kernel) (fun _ => rfl)).trans ?_
    refine (R_virt (i := 120) (f := 88) (kd := 0) (na := 0) (ml := 1) (ci := 8) (n := 2) (b := r2) (As := []) (rest := []) (by decide +kernel) (by decide +kernel) (by decide) (by decide +kernel) rfl (by decide +kernel) hS_r2.1 rfl (by decide +kernel) (Nat.le_of_ble_eq_true rfl)).trans ?_
    rfl
  · refine (R_pure0 (ins := .aload_n 0) (len := 1) (loc' := [.ref 2, .int x1, .ref r2, xmk, xmk, xmk, xmk]) (st' := [.ref 2]) (by decide +kernel) (fun _ => rfl)).trans ?_
    refine (R_iconst (n := 1) (v := 1) (by decide +kernel) (by decide +kernel)).trans ?_
    refine (R_virt (i := 106) (f := 141) (kd := 0) (na := 1) (ml := 2) (ci := 9) (n := 12) (b := 2) (As := [.int 1]) (rest := []) (by decide +kernel) (by decide +kernel) (by decide) (by decide +kernel) rfl (by decide +kernel) rfl rfl (by decide +kernel) (Nat.le_of_ble_eq_true rfl)).trans ?_
    rfl
theorem s104_32 {L : Nat} {mi : Nat → Nat → Int32} {ml : Nat → Nat → Int64} {d : Nat} {Q : Option Value → xM → Prop} {x1 y : Int32} {r2 : Nat} {n_r2 : Nat} (hS_r2 : isStrip L r2 n_r2) : X 104 32 [.ref 2, .int x1, .ref r2, xmk, xmk, xmk, xmk] [.int y] (SH L, mi, ml, MR) (d + 1) Q =
    if ((0 : Int32) < y) then (X 104 49 [.ref 2, .int x1, .ref r2, .int y, .long 0, xmk, .int 0] [] (SH L, mi, ml, MR) (d + 1) Q) else (Xm 141 [.ref 2, .int 4] (SH L, mi, ml, MR) d (fun v μ' => X 104 42 [.ref 2, .int x1, .ref r2, .int y, xmk, xmk, xmk] (v.toList ++ []) μ' (d + 1) Q)) := by
  refine (R_pure0 (ins := .istore_n 3) (len := 1) (loc' := [.ref 2, .int x1, .ref r2, .int y, xmk, xmk, xmk]) (st' := []) (by decide +kernel) (fun _ => rfl)).trans ?_
  refine (R_pure0 (ins := .iload_n 3) (len := 1) (loc' := [.ref 2, .int x1, .ref r2, .int y, xmk, xmk, xmk]) (st' := [.int y]) (by decide +kernel) (fun _ => rfl)).trans ?_
  refine (R_if_gt (off := 9) (t := 43) (by decide +kernel) (by decide +kernel)).trans (ite_congr rfl (fun c0 => ?_) (fun c0 => ?_))
  · refine (R_lconst (n := 0) (v := 0) (by decide +kernel) (by decide +kernel)).trans ?_
    refine (R_pure0 (ins := .lstore 4) (len := 2) (loc' := [.ref 2, .int x1, .ref r2, .int y, .long 0, xmk, xmk]) (st' := []) (by decide +kernel) (fun _ => rfl)).trans ?_
    refine (R_iconst (n := 0) (v := 0) (by decide +kernel) (by decide +kernel)).trans ?_
    refine (R_pure0 (ins := .istore 6) (len := 2) (loc' := [.ref 2, .int x1, .ref r2, .int y, .long 0, xmk, .int 0]) (st' := []) (by decide +kernel) (fun _ => rfl)).trans ?_
    rfl
  · refine (R_pure0 (ins := .aload_n 0) (len := 1) (loc' := [.ref 2, .int x1, .ref r2, .int y, xmk, xmk, xmk]) (st' := [.ref 2]) (by decide +kernel) (fun _ => rfl)).trans ?_
    refine (R_iconst (n := 4) (v := 4) (by decide +kernel) (by decide +kernel)).trans ?_
    refine (R_virt (i := 106) (f := 141) (kd := 0) (na := 1) (ml := 2) (ci := 9) (n := 12) (b := 2) (As := [.int 4]) (rest := []) (by decide +kernel) (by decide +kernel) (by decide) (by decide +kernel) rfl (by decide +kernel) rfl rfl (by decide +kernel) (Nat.le_of_ble_eq_true rfl)).trans ?_
    rfl
theorem s104_27 {L : Nat} {mi : Nat → Nat → Int32} {ml : Nat → Nat → Int64} {d : Nat} {Q : Option Value → xM → Prop} {x1 y : Int32} {r2 : Nat} {n_r2 : Nat} (hS_r2 : isStrip L r2 n_r2) : X 104 27 [.ref 2, .int x1, .ref r2, xmk, xmk, xmk, xmk] [.int y] (SH L, mi, ml, MR) d Q =
    Q (some (.int y)) (SH L, mi, ml, MR) := by
  exact R_ireturn (by decide +kernel) (by decide +kernel)
theorem s104_49 {L : Nat} {mi : Nat → Nat → Int32} {ml : Nat → Nat → Int64} {d : Nat} {Q : Option Value → xM → Prop} {x1 x3 x6 : Int32} {x4 : Int64} {r2 : Nat} {n_r2 : Nat} (hS_r2 : isStrip L r2 n_r2) (h1 : ¬ (x6 < x3) → ¬ x3.toInt64 = 0) : X 104 49 [.ref 2, .int x1, .ref r2, .int x3, .long x4, xmk, .int x6] [] (SH L, mi, ml, MR) (d + 1) Q =
    if (x6 < x3) then (Xm 90 [.ref r2, .int x6] (SH L, mi, ml, MR) d (fun v μ' => X 104 63 [.ref 2, .int x1, .ref r2, .int x3, .long x4, xmk, .int x6] (v.toList ++ [.long x4]) μ' (d + 1) Q)) else (Q (some (.int 1)) (SH L, (xw mi 2 11 (x4 / x3.toInt64).toInt32), ml, MR)) := by
  refine (R_pure0 (ins := .iload 6) (len := 2) (loc' := [.ref 2, .int x1, .ref r2, .int x3, .long x4, xmk, .int x6]) (st' := [.int x6]) (by decide +kernel) (fun _ => rfl)).trans ?_
  refine (R_pure0 (ins := .iload_n 3) (len := 1) (loc' := [.ref 2, .int x1, .ref r2, .int x3, .long x4, xmk, .int x6]) (st' := [.int x3, .int x6]) (by decide +kernel) (fun _ => rfl)).trans ?_
  refine (R_icmp_ge (off := 21) (t := 73) (by decide +kernel) (by decide +kernel)).trans (ite_congr rfl (fun c0 => ?_) (fun c0 => ?_))
  · refine (R_pure0 (ins := .lload 4) (len := 2) (loc' := [.ref 2, .int x1, .ref r2, .int x3, .long x4, xmk, .int x6]) (st' := [.long x4]) (by decide +kernel) (fun _ => rfl)).trans ?_
    refine (R_pure0 (ins := .aload_n 2) (len := 1) (loc' := [.ref 2, .int x1, .ref r2, .int x3, .long x4, xmk, .int x6]) (st' := [.ref r2, .long x4]) (by decide +kernel) (fun _ => rfl)).trans ?_
    refine (R_pure0 (ins := .iload 6) (len := 2) (loc' := [.ref 2, .int x1, .ref r2, .int x3, .long x4, xmk, .int x6]) (st' := [.int x6, .ref r2, .long x4]) (by decide +kernel) (fun _ => rfl)).trans ?_
    refine (R_virt (i := 93) (f := 90) (kd := 0) (na := 1) (ml := 2) (ci := 8) (n := 2) (b := r2) (As := [.int x6]) (rest := [.long x4]) (by decide +kernel) (by decide +kernel) (by decide) (by decide +kernel) rfl (by decide +kernel) hS_r2.1 rfl (by decide +kernel) (Nat.le_of_ble_eq_true rfl)).trans ?_
    rfl
  · refine (R_pure0 (ins := .aload_n 0) (len := 1) (loc' := [.ref 2, .int x1, .ref r2, .int x3, .long x4, xmk, .int x6]) (st' := [.ref 2]) (by decide +kernel) (fun _ => rfl)).trans ?_
    refine (R_pure0 (ins := .lload 4) (len := 2) (loc' := [.ref 2, .int x1, .ref r2, .int x3, .long x4, xmk, .int x6]) (st' := [.long x4, .ref 2]) (by decide +kernel) (fun _ => rfl)).trans ?_
    refine (R_pure0 (ins := .iload_n 3) (len := 1) (loc' := [.ref 2, .int x1, .ref r2, .int x3, .long x4, xmk, .int x6]) (st' := [.int x3, .long x4, .ref 2]) (by decide +kernel) (fun _ => rfl)).trans ?_
    refine (R_pure0 (ins := .i2l) (len := 1) (loc' := [.ref 2, .int x1, .ref r2, .int x3, .long x4, xmk, .int x6]) (st' := [.long x3.toInt64, .long x4, .ref 2]) (by decide +kernel) (fun _ => rfl)).trans ?_
    refine (R_ldiv (x := x4) (y := x3.toInt64) (by decide +kernel) (h1 c0)).trans ?_
    refine (R_pure0 (ins := .l2i) (len := 1) (loc' := [.ref 2, .int x1, .ref r2, .int x3, .long x4, xmk, .int x6]) (st' := [.int (x4 / x3.toInt64).toInt32, .ref 2]) (by decide +kernel) (fun _ => rfl)).trans ?_
    refine (R_pi (i := 78) (ci := 9) (k := 11) (n := 12) (by decide +kernel) (by decide +kernel) (by decide) rfl).trans ?_
    refine (R_iconst (n := 1) (v := 1) (by decide +kernel) (by decide +kernel)).trans ?_
    exact R_ireturn (by decide +kernel) (by decide +kernel)
theorem s104_42 {L : Nat} {mi : Nat → Nat → Int32} {ml : Nat → Nat → Int64} {d : Nat} {Q : Option Value → xM → Prop} {x1 x3 y : Int32} {r2 : Nat} {n_r2 : Nat} (hS_r2 : isStrip L r2 n_r2) : X 104 42 [.ref 2, .int x1, .ref r2, .int x3, xmk, xmk, xmk] [.int y] (SH L, mi, ml, MR) d Q =
    Q (some (.int y)) (SH L, mi, ml, MR) := by
  exact R_ireturn (by decide +kernel) (by decide +kernel)
theorem s104_63 {L : Nat} {mi : Nat → Nat → Int32} {ml : Nat → Nat → Int64} {d : Nat} {Q : Option Value → xM → Prop} {x1 x3 x6 y : Int32} {x4 z0 : Int64} {r2 : Nat} {n_r2 : Nat} (hS_r2 : isStrip L r2 n_r2) : X 104 63 [.ref 2, .int x1, .ref r2, .int x3, .long x4, xmk, .int x6] [.int y, .long z0] (SH L, mi, ml, MR) d Q =
    X 104 49 [.ref 2, .int x1, .ref r2, .int x3, .long (z0 + y.toInt64), xmk, .int (x6 + 1)] [] (SH L, mi, ml, MR) d Q := by
  refine (R_pure0 (ins := .i2l) (len := 1) (loc' := [.ref 2, .int x1, .ref r2, .int x3, .long x4, xmk, .int x6]) (st' := [.long y.toInt64, .long z0]) (by decide +kernel) (fun _ => rfl)).trans ?_
  refine (R_pure0 (ins := .ladd) (len := 1) (loc' := [.ref 2, .int x1, .ref r2, .int x3, .long x4, xmk, .int x6]) (st' := [.long (z0 + y.toInt64)]) (by decide +kernel) (fun _ => rfl)).trans ?_
  refine (R_pure0 (ins := .lstore 4) (len := 2) (loc' := [.ref 2, .int x1, .ref r2, .int x3, .long (z0 + y.toInt64), xmk, .int x6]) (st' := []) (by decide +kernel) (fun _ => rfl)).trans ?_
  refine (R_iinc (k := 6) (n := 1) (x := x6) (v := (x6 + 1)) (loc' := [.ref 2, .int x1, .ref r2, .int x3, .long (z0 + y.toInt64), xmk, .int (x6 + 1)]) (by decide +kernel) rfl rfl rfl).trans ?_
  refine (R_goto (off := (-21)) (t := 49) (by decide +kernel) (by decide +kernel)).trans ?_
  rfl
theorem s105 {L : Nat} {mi : Nat → Nat → Int32} {ml : Nat → Nat → Int64} {d : Nat} {Q : Option Value → xM → Prop} {x1 x2 : Int32} : Xm 105 [.ref 2, .int x1, .int x2] (SH L, mi, ml, MR) (d + 1) Q =
    Xm 82 [.ref 17, .int x1] (SH L, mi, ml, MR) d (fun v μ' => X 105 9 [.ref 2, .int x1, .int x2] (v.toList ++ [.ref 2]) μ' (d + 1) Q) := by
  rw [Xm_ent (n := 3) (loc := [.ref 2, .int x1, .int x2]) (by decide +kernel) rfl]
  refine (R_pure0 (ins := .aload_n 0) (len := 1) (loc' := [.ref 2, .int x1, .int x2]) (st' := [.ref 2]) (by decide +kernel) (fun _ => rfl)).trans ?_
  refine (R_pure0 (ins := .aload_n 0) (len := 1) (loc' := [.ref 2, .int x1, .int x2]) (st' := [.ref 2, .ref 2]) (by decide +kernel) (fun _ => rfl)).trans ?_
  refine (R_gr (i := 18) (ci := 9) (k := 1) (n := 12) (b := 17) (by decide +kernel) (by decide +kernel) (by decide) rfl (SH_ref (by decide +kernel))).trans ?_
  refine (R_pure0 (ins := .iload_n 1) (len := 1) (loc' := [.ref 2, .int x1, .int x2]) (st' := [.int x1, .ref 17, .ref 2]) (by decide +kernel) (fun _ => rfl)).trans ?_
  refine (R_virt (i := 81) (f := 82) (kd := 0) (na := 1) (ml := 2) (ci := 7) (n := 1) (b := 17) (As := [.int x1]) (rest := [.ref 2]) (by decide +kernel) (by decide +kernel) (by decide) (by decide +kernel) rfl (by decide +kernel) rfl rfl (by decide +kernel) (Nat.le_of_ble_eq_true rfl)).trans ?_
  rfl
theorem s105_9 {L : Nat} {mi : Nat → Nat → Int32} {ml : Nat → Nat → Int64} {d : Nat} {Q : Option Value → xM → Prop} {x1 x2 : Int32} {ry : Nat} {n_ry : Nat} (hS_ry : isStrip L ry n_ry) : X 105 9 [.ref 2, .int x1, .int x2] [.ref ry, .ref 2] (SH L, mi, ml, MR) (d + 1) Q =
    Xm 144 [.ref 2, .ref ry, .int x2, .int 60, .int 32] (SH L, mi, ml, MR) d (fun v μ' => X 105 17 [.ref 2, .int x1, .int x2] (v.toList ++ []) μ' (d + 1) Q) := by
  refine (R_pure0 (ins := .iload_n 2) (len := 1) (loc' := [.ref 2, .int x1, .int x2]) (st' := [.int x2, .ref ry, .ref 2]) (by decide +kernel) (fun _ => rfl)).trans ?_
  refine (R_bipush (n := 60) (v := 60) (by decide +kernel) (by decide +kernel)).trans ?_
  refine (R_bipush (n := 32) (v := 32) (by decide +kernel) (by decide +kernel)).trans ?_
  refine (R_virt (i := 85) (f := 144) (kd := 0) (na := 4) (ml := 5) (ci := 9) (n := 12) (b := 2) (As := [.ref ry, .int x2, .int 60, .int 32]) (rest := []) (by decide +kernel) (by decide +kernel) (by decide) (by decide +kernel) rfl (by decide +kernel) rfl rfl (by decide +kernel) (Nat.le_of_ble_eq_true rfl)).trans ?_
  rfl
theorem s105_9n {L : Nat} {mi : Nat → Nat → Int32} {ml : Nat → Nat → Int64} {d : Nat} {Q : Option Value → xM → Prop} {x1 x2 : Int32} : X 105 9 [.ref 2, .int x1, .int x2] [.null, .ref 2] (SH L, mi, ml, MR) (d + 1) Q =
    Xm 144 [.ref 2, .null, .int x2, .int 60, .int 32] (SH L, mi, ml, MR) d (fun v μ' => X 105 17 [.ref 2, .int x1, .int x2] (v.toList ++ []) μ' (d + 1) Q) := by
  refine (R_pure0 (ins := .iload_n 2) (len := 1) (loc' := [.ref 2, .int x1, .int x2]) (st' := [.int x2, .null, .ref 2]) (by decide +kernel) (fun _ => rfl)).trans ?_
  refine (R_bipush (n := 60) (v := 60) (by decide +kernel) (by decide +kernel)).trans ?_
  refine (R_bipush (n := 32) (v := 32) (by decide +kernel) (by decide +kernel)).trans ?_
  refine (R_virt (i := 85) (f := 144) (kd := 0) (na := 4) (ml := 5) (ci := 9) (n := 12) (b := 2) (As := [.null, .int x2, .int 60, .int 32]) (rest := []) (by decide +kernel) (by decide +kernel) (by decide) (by decide +kernel) rfl (by decide +kernel) rfl rfl (by decide +kernel) (Nat.le_of_ble_eq_true rfl)).trans ?_
  rfl
theorem s105_17 {L : Nat} {mi : Nat → Nat → Int32} {ml : Nat → Nat → Int64} {d : Nat} {Q : Option Value → xM → Prop} {x1 x2 y : Int32} : X 105 17 [.ref 2, .int x1, .int x2] [.int y] (SH L, mi, ml, MR) d Q =
    Q (some (.int y)) (SH L, mi, ml, MR) := by
  exact R_ireturn (by decide +kernel) (by decide +kernel)
theorem s106 {L : Nat} {mi : Nat → Nat → Int32} {ml : Nat → Nat → Int64} {d : Nat} {Q : Option Value → xM → Prop} {x1 x2 x3 : Int32} : Xm 106 [.ref 2, .int x1, .int x2, .int x3] (SH L, mi, ml, MR) (d + 1) Q =
    Xm 82 [.ref 17, .int x1] (SH L, mi, ml, MR) d (fun v μ' => X 106 8 [.ref 2, .int x1, .int x2, .int x3, xmk, xmk, xmk] (v.toList ++ []) μ' (d + 1) Q) := by
  rw [Xm_ent (n := 7) (loc := [.ref 2, .int x1, .int x2, .int x3, xmk, xmk, xmk]) (by decide +kernel) rfl]
  refine (R_pure0 (ins := .aload_n 0) (len := 1) (loc' := [.ref 2, .int x1, .int x2, .int x3, xmk, xmk, xmk]) (st' := [.ref 2]) (by decide +kernel) (fun _ => rfl)).trans ?_
  refine (R_gr (i := 18) (ci := 9) (k := 1) (n := 12) (b := 17) (by decide +kernel) (by decide +kernel) (by decide) rfl (SH_ref (by decide +kernel))).trans ?_
  refine (R_pure0 (ins := .iload_n 1) (len := 1) (loc' := [.ref 2, .int x1, .int x2, .int x3, xmk, xmk, xmk]) (st' := [.int x1, .ref 17]) (by decide +kernel) (fun _ => rfl)).trans ?_
  refine (R_virt (i := 81) (f := 82) (kd := 0) (na := 1) (ml := 2) (ci := 7) (n := 1) (b := 17) (As := [.int x1]) (rest := []) (by decide +kernel) (by decide +kernel) (by decide) (by decide +kernel) rfl (by decide +kernel) rfl rfl (by decide +kernel) (Nat.le_of_ble_eq_true rfl)).trans ?_
  rfl
theorem s106_8 {L : Nat} {mi : Nat → Nat → Int32} {ml : Nat → Nat → Int64} {d : Nat} {Q : Option Value → xM → Prop} {x1 x2 x3 : Int32} {ry : Nat} {n_ry : Nat} (hS_ry : isStrip L ry n_ry) : X 106 8 [.ref 2, .int x1, .int x2, .int x3, xmk, xmk, xmk] [.ref ry] (SH L, mi, ml, MR) (d + 1) Q =
    Xm 145 [.ref 2, .ref ry, .int x2] (SH L, mi, ml, MR) d (fun v μ' => X 106 24 [.ref 2, .int x1, .int x2, .int x3, .ref ry, xmk, xmk] (v.toList ++ []) μ' (d + 1) Q) := by
  refine (R_pure0 (ins := .astore 4) (len := 2) (loc' := [.ref 2, .int x1, .int x2, .int x3, .ref ry, xmk, xmk]) (st' := []) (by decide +kernel) (fun _ => rfl)).trans ?_
  refine (R_pure0 (ins := .aload 4) (len := 2) (loc' := [.ref 2, .int x1, .int x2, .int x3, .ref ry, xmk, xmk]) (st' := [.ref ry]) (by decide +kernel) (fun _ => rfl)).trans ?_
  refine (R_ifnonnull_r (off := 5) (t := 17) (by decide +kernel) (by decide +kernel)).trans ?_
  refine (R_pure0 (ins := .aload_n 0) (len := 1) (loc' := [.ref 2, .int x1, .int x2, .int x3, .ref ry, xmk, xmk]) (st' := [.ref 2]) (by decide +kernel) (fun _ => rfl)).trans ?_
  refine (R_pure0 (ins := .aload 4) (len := 2) (loc' := [.ref 2, .int x1, .int x2, .int x3, .ref ry, xmk, xmk]) (st' := [.ref ry, .ref 2]) (by decide +kernel) (fun _ => rfl)).trans ?_
  refine (R_pure0 (ins := .iload_n 2) (len := 1) (loc' := [.ref 2, .int x1, .int x2, .int x3, .ref ry, xmk, xmk]) (st' := [.int x2, .ref ry, .ref 2]) (by decide +kernel) (fun _ => rfl)).trans ?_
  refine (R_virt (i := 89) (f := 145) (kd := 0) (na := 2) (ml := 3) (ci := 9) (n := 12) (b := 2) (As := [.ref ry, .int x2]) (rest := []) (by decide +kernel) (by decide +kernel) (by decide) (by decide +kernel) rfl (by decide +kernel) rfl rfl (by decide +kernel) (Nat.le_of_ble_eq_true rfl)).trans ?_
  rfl
theorem s106_8n {L : Nat} {mi : Nat → Nat → Int32} {ml : Nat → Nat → Int64} {d : Nat} {Q : Option Value → xM → Prop} {x1 x2 x3 : Int32} : X 106 8 [.ref 2, .int x1, .int x2, .int x3, xmk, xmk, xmk] [.null] (SH L, mi, ml, MR) d Q =
    Q (some (.int (-1))) (SH L, mi, ml, MR) := by
  refine (R_pure0 (ins := .astore 4) (len := 2) (loc' := [.ref 2, .int x1, .int x2, .int x3, .null, xmk, xmk]) (st' := []) (by decide +kernel) (fun _ => rfl)).trans ?_
  refine (R_pure0 (ins := .aload 4) (len := 2) (loc' := [.ref 2, .int x1, .int x2, .int x3, .null, xmk, xmk]) (st' := [.null]) (by decide +kernel) (fun _ => rfl)).trans ?_
  refine (R_ifnonnull_n (off := 5) (by decide +kernel)).trans ?_
  refine (R_iconst (n := (-1)) (v := (-1)) (by decide +kernel) (by decide +kernel)).trans ?_
  exact R_ireturn (by decide +kernel) (by decide +kernel)
theorem s106_24 {L : Nat} {mi : Nat → Nat → Int32} {ml : Nat → Nat → Int64} {d : Nat} {Q : Option Value → xM → Prop} {x1 x2 x3 y : Int32} {r4 : Nat} {n_r4 : Nat} (hS_r4 : isStrip L r4 n_r4) : X 106 24 [.ref 2, .int x1, .int x2, .int x3, .ref r4, xmk, xmk] [.int y] (SH L, mi, ml, MR) (d + 1) Q =
    if (y = 0) then (Xm 90 [.ref r4, .int x2] (SH L, mi, ml, MR) d (fun v μ' => X 106 40 [.ref 2, .int x1, .int x2, .int x3, .ref r4, .int y, xmk] (v.toList ++ []) μ' (d + 1) Q)) else (Q (some (.int y)) (SH L, mi, ml, MR)) := by
  refine (R_pure0 (ins := .istore 5) (len := 2) (loc' := [.ref 2, .int x1, .int x2, .int x3, .ref r4, .int y, xmk]) (st' := []) (by decide +kernel) (fun _ => rfl)).trans ?_
  refine (R_pure0 (ins := .iload 5) (len := 2) (loc' := [.ref 2, .int x1, .int x2, .int x3, .ref r4, .int y, xmk]) (st' := [.int y]) (by decide +kernel) (fun _ => rfl)).trans ?_
  refine (R_if_eq (off := 6) (t := 34) (by decide +kernel) (by decide +kernel)).trans (ite_congr rfl (fun c0 => ?_) (fun c0 => ?_))
  · refine (R_pure0 (ins := .aload 4) (len := 2) (loc' := [.ref 2, .int x1, .int x2, .int x3, .ref r4, .int y, xmk]) (st' := [.ref r4]) (by decide +kernel) (fun _ => rfl)).trans ?_
    refine (R_pure0 (ins := .iload_n 2) (len := 1) (loc' := [.ref 2, .int x1, .int x2, .int x3, .ref r4, .int y, xmk]) (st' := [.int x2, .ref r4]) (by decide +kernel) (fun _ => rfl)).trans ?_
    refine (R_virt (i := 93) (f := 90) (kd := 0) (na := 1) (ml := 2) (ci := 8) (n := 2) (b := r4) (As := [.int x2]) (rest := []) (by decide +kernel) (by decide +kernel) (by decide) (by decide +kernel) rfl (by decide +kernel) hS_r4.1 rfl (by decide +kernel) (Nat.le_of_ble_eq_true rfl)).trans ?_
    rfl
  · refine (R_pure0 (ins := .iload 5) (len := 2) (loc' := [.ref 2, .int x1, .int x2, .int x3, .ref r4, .int y, xmk]) (st' := [.int y]) (by decide +kernel) (fun _ => rfl)).trans ?_
    exact R_ireturn (by decide +kernel) (by decide +kernel)
theorem s106_40 {L : Nat} {mi : Nat → Nat → Int32} {ml : Nat → Nat → Int64} {d : Nat} {Q : Option Value → xM → Prop} {x1 x2 x3 x5 y : Int32} {r4 : Nat} {n_r4 : Nat} (hS_r4 : isStrip L r4 n_r4) : X 106 40 [.ref 2, .int x1, .int x2, .int x3, .ref r4, .int x5, xmk] [.int y] (SH L, mi, ml, MR) (d + 1) Q =
    Xm 91 [.ref r4, .int x2, .int x3.toInt8.toInt32] (SH L, mi, ml, MR) d (fun v μ' => X 106 50 [.ref 2, .int x1, .int x2, .int x3, .ref r4, .int x5, .int y] (v.toList ++ []) μ' (d + 1) Q) := by
  refine (R_pure0 (ins := .istore 6) (len := 2) (loc' := [.ref 2, .int x1, .int x2, .int x3, .ref r4, .int x5, .int y]) (st' := []) (by decide +kernel) (fun _ => rfl)).trans ?_
  refine (R_pure0 (ins := .aload 4) (len := 2) (loc' := [.ref 2, .int x1, .int x2, .int x3, .ref r4, .int x5, .int y]) (st' := [.ref r4]) (by decide +kernel) (fun _ => rfl)).trans ?_
  refine (R_pure0 (ins := .iload_n 2) (len := 1) (loc' := [.ref 2, .int x1, .int x2, .int x3, .ref r4, .int x5, .int y]) (st' := [.int x2, .ref r4]) (by decide +kernel) (fun _ => rfl)).trans ?_
  refine (R_pure0 (ins := .iload_n 3) (len := 1) (loc' := [.ref 2, .int x1, .int x2, .int x3, .ref r4, .int x5, .int y]) (st' := [.int x3, .int x2, .ref r4]) (by decide +kernel) (fun _ => rfl)).trans ?_
  refine (R_pure0 (ins := .i2b) (len := 1) (loc' := [.ref 2, .int x1, .int x2, .int x3, .ref r4, .int x5, .int y]) (st' := [.int x3.toInt8.toInt32, .int x2, .ref r4]) (by decide +kernel) (fun _ => rfl)).trans ?_
  refine (R_virt (i := 99) (f := 91) (kd := 0) (na := 2) (ml := 3) (ci := 8) (n := 2) (b := r4) (As := [.int x2, .int x3.toInt8.toInt32]) (rest := []) (by decide +kernel) (by decide +kernel) (by decide) (by decide +kernel) rfl (by decide +kernel) hS_r4.1 rfl (by decide +kernel) (Nat.le_of_ble_eq_true rfl)).trans ?_
  rfl
theorem s106_50 {L : Nat} {mi : Nat → Nat → Int32} {ml : Nat → Nat → Int64} {d : Nat} {Q : Option Value → xM → Prop} {x1 x2 x3 x5 x6 : Int32} {r4 : Nat} {n_r4 : Nat} (hS_r4 : isStrip L r4 n_r4) : X 106 50 [.ref 2, .int x1, .int x2, .int x3, .ref r4, .int x5, .int x6] [] (SH L, mi, ml, MR) d Q =
    Q (some (.int (x6 + 1000))) (SH L, mi, ml, MR) := by
  refine (R_pure0 (ins := .iload 6) (len := 2) (loc' := [.ref 2, .int x1, .int x2, .int x3, .ref r4, .int x5, .int x6]) (st' := [.int x6]) (by decide +kernel) (fun _ => rfl)).trans ?_
  refine (R_sipush (n := 1000) (v := 1000) (by decide +kernel) (by decide +kernel)).trans ?_
  refine (R_pure0 (ins := .iadd) (len := 1) (loc' := [.ref 2, .int x1, .int x2, .int x3, .ref r4, .int x5, .int x6]) (st' := [.int (x6 + 1000)]) (by decide +kernel) (fun _ => rfl)).trans ?_
  exact R_ireturn (by decide +kernel) (by decide +kernel)
theorem s107 {L : Nat} {mi : Nat → Nat → Int32} {ml : Nat → Nat → Int64} {d : Nat} {Q : Option Value → xM → Prop} {x1 : Int32} : Xm 107 [.ref 2, .int x1] (SH L, mi, ml, MR) (d + 1) Q =
    Xm 82 [.ref 17, .int x1] (SH L, mi, ml, MR) d (fun v μ' => X 107 8 [.ref 2, .int x1, xmk] (v.toList ++ []) μ' (d + 1) Q) := by
  rw [Xm_ent (n := 3) (loc := [.ref 2, .int x1, xmk]) (by decide +kernel) rfl]
  refine (R_pure0 (ins := .aload_n 0) (len := 1) (loc' := [.ref 2, .int x1, xmk]) (st' := [.ref 2]) (by decide +kernel) (fun _ => rfl)).trans ?_
  refine (R_gr (i := 18) (ci := 9) (k := 1) (n := 12) (b := 17) (by decide +kernel) (by decide +kernel) (by decide) rfl (SH_ref (by decide +kernel))).trans ?_
  refine (R_pure0 (ins := .iload_n 1) (len := 1) (loc' := [.ref 2, .int x1, xmk]) (st' := [.int x1, .ref 17]) (by decide +kernel) (fun _ => rfl)).trans ?_
  refine (R_virt (i := 81) (f := 82) (kd := 0) (na := 1) (ml := 2) (ci := 7) (n := 1) (b := 17) (As := [.int x1]) (rest := []) (by decide +kernel) (by decide +kernel) (by decide) (by decide +kernel) rfl (by decide +kernel) rfl rfl (by decide +kernel) (Nat.le_of_ble_eq_true rfl)).trans ?_
  rfl
theorem s107_8 {L : Nat} {mi : Nat → Nat → Int32} {ml : Nat → Nat → Int64} {d : Nat} {Q : Option Value → xM → Prop} {x1 : Int32} {ry : Nat} {n_ry : Nat} (hS_ry : isStrip L ry n_ry) : X 107 8 [.ref 2, .int x1, xmk] [.ref ry] (SH L, mi, ml, MR) (d + 1) Q =
    Xm 87 [.ref ry] (SH L, mi, ml, MR) d (fun v μ' => X 107 19 [.ref 2, .int x1, .ref ry] (v.toList ++ []) μ' (d + 1) Q) := by
  refine (R_pure0 (ins := .astore_n 2) (len := 1) (loc' := [.ref 2, .int x1, .ref ry]) (st' := []) (by decide +kernel) (fun _ => rfl)).trans ?_
  refine (R_pure0 (ins := .aload_n 2) (len := 1) (loc' := [.ref 2, .int x1, .ref ry]) (st' := [.ref ry]) (by decide +kernel) (fun _ => rfl)).trans ?_
  refine (R_ifnonnull_r (off := 5) (t := 15) (by decide +kernel) (by decide +kernel)).trans ?_
  refine (R_pure0 (ins := .aload_n 2) (len := 1) (loc' := [.ref 2, .int x1, .ref ry]) (st' := [.ref ry]) (by decide +kernel) (fun _ => rfl)).trans ?_
  refine (R_virt (i := 102) (f := 87) (kd := 0) (na := 0) (ml := 1) (ci := 8) (n := 2) (b := ry) (As := []) (rest := []) (by decide +kernel) (by decide +kernel) (by decide) (by decide +kernel) rfl (by decide +kernel) hS_ry.1 rfl (by decide +kernel) (Nat.le_of_ble_eq_true rfl)).trans ?_
  rfl
theorem s107_8n {L : Nat} {mi : Nat → Nat → Int32} {ml : Nat → Nat → Int64} {d : Nat} {Q : Option Value → xM → Prop} {x1 : Int32} : X 107 8 [.ref 2, .int x1, xmk] [.null] (SH L, mi, ml, MR) d Q =
    Q (some (.int (-1))) (SH L, mi, ml, MR) := by
  refine (R_pure0 (ins := .astore_n 2) (len := 1) (loc' := [.ref 2, .int x1, .null]) (st' := []) (by decide +kernel) (fun _ => rfl)).trans ?_
  refine (R_pure0 (ins := .aload_n 2) (len := 1) (loc' := [.ref 2, .int x1, .null]) (st' := [.null]) (by decide +kernel) (fun _ => rfl)).trans ?_
  refine (R_ifnonnull_n (off := 5) (by decide +kernel)).trans ?_
  refine (R_iconst (n := (-1)) (v := (-1)) (by decide +kernel) (by decide +kernel)).trans ?_
  exact R_ireturn (by decide +kernel) (by decide +kernel)
theorem s107_19 {L : Nat} {mi : Nat → Nat → Int32} {ml : Nat → Nat → Int64} {d : Nat} {Q : Option Value → xM → Prop} {x1 y : Int32} {r2 : Nat} {n_r2 : Nat} (hS_r2 : isStrip L r2 n_r2) : X 107 19 [.ref 2, .int x1, .ref r2] [.int y] (SH L, mi, ml, MR) (d + 1) Q =
    if (y = 0) then (Xm 64 [.ref 35, .ref r2] (SH L, mi, ml, MR) d (fun v μ' => X 107 38 [.ref 2, .int x1, .ref r2] (v.toList ++ []) μ' (d + 1) Q)) else (Xm 141 [.ref 2, .int 1] (SH L, mi, ml, MR) d (fun v μ' => X 107 27 [.ref 2, .int x1, .ref r2] (v.toList ++ []) μ' (d + 1) Q)) := by
  refine (R_if_eq (off := 11) (t := 30) (by decide +kernel) (by decide +kernel)).trans (ite_congr rfl (fun c0 => ?_) (fun c0 => ?_))
  · refine (R_pure0 (ins := .aload_n 0) (len := 1) (loc' := [.ref 2, .int x1, .ref r2]) (st' := [.ref 2]) (by decide +kernel) (fun _ => rfl)).trans ?_
    refine (R_gr (i := 27) (ci := 9) (k := 3) (n := 12) (b := 35) (by decide +kernel) (by decide +kernel) (by decide) rfl (SH_ref (by decide +kernel))).trans ?_
    refine (R_pure0 (ins := .aload_n 2) (len := 1) (loc' := [.ref 2, .int x1, .ref r2]) (st' := [.ref r2, .ref 35]) (by decide +kernel) (fun _ => rfl)).trans ?_
    refine (R_virt (i := 124) (f := 64) (kd := 0) (na := 1) (ml := 7) (ci := 5) (n := 1) (b := 35) (As := [.ref r2]) (rest := []) (by decide +kernel) (by decide +kernel) (by decide) (by decide +kernel) rfl (by decide +kernel) rfl rfl (by decide +kernel) (Nat.le_of_ble_eq_true rfl)).trans ?_
    rfl
  · refine (R_pure0 (ins := .aload_n 0) (len := 1) (loc' := [.ref 2, .int x1, .ref r2]) (st' := [.ref 2]) (by decide +kernel) (fun _ => rfl)).trans ?_
    refine (R_iconst (n := 1) (v := 1) (by decide +kernel) (by decide +kernel)).trans ?_
    refine (R_virt (i := 106) (f := 141) (kd := 0) (na := 1) (ml := 2) (ci := 9) (n := 12) (b := 2) (As := [.int 1]) (rest := []) (by decide +kernel) (by decide +kernel) (by decide) (by decide +kernel) rfl (by decide +kernel) rfl rfl (by decide +kernel) (Nat.le_of_ble_eq_true rfl)).trans ?_
    rfl
theorem s107_38 {L : Nat} {mi : Nat → Nat → Int32} {ml : Nat → Nat → Int64} {d : Nat} {Q : Option Value → xM → Prop} {x1 y : Int32} {r2 : Nat} {n_r2 : Nat} (hS_r2 : isStrip L r2 n_r2) : X 107 38 [.ref 2, .int x1, .ref r2] [.int y] (SH L, mi, ml, MR) d Q =
    Q (some (.int y)) (SH L, mi, ml, MR) := by
  exact R_ireturn (by decide +kernel) (by decide +kernel)
theorem s107_27 {L : Nat} {mi : Nat → Nat → Int32} {ml : Nat → Nat → Int64} {d : Nat} {Q : Option Value → xM → Prop} {x1 y : Int32} {r2 : Nat} {n_r2 : Nat} (hS_r2 : isStrip L r2 n_r2) : X 107 27 [.ref 2, .int x1, .ref r2] [.int y] (SH L, mi, ml, MR) d Q =
    Q (some (.int y)) (SH L, mi, ml, MR) := by
  refine (R_goto (off := 11) (t := 38) (by decide +kernel) (by decide +kernel)).trans ?_
  exact R_ireturn (by decide +kernel) (by decide +kernel)
theorem s108 {L : Nat} {mi : Nat → Nat → Int32} {ml : Nat → Nat → Int64} {d : Nat} {Q : Option Value → xM → Prop} {x1 : Int32} : Xm 108 [.ref 2, .int x1] (SH L, mi, ml, MR) (d + 1) Q =
    Xm 82 [.ref 17, .int x1] (SH L, mi, ml, MR) d (fun v μ' => X 108 8 [.ref 2, .int x1, xmk] (v.toList ++ []) μ' (d + 1) Q) := by
  rw [Xm_ent (n := 3) (loc := [.ref 2, .int x1, xmk]) (by decide +kernel) rfl]
  refine (R_pure0 (ins := .aload_n 0) (len := 1) (loc' := [.ref 2, .int x1, xmk]) (st' := [.ref 2]) (by decide +kernel) (fun _ => rfl)).trans ?_
  refine (R_gr (i := 18) (ci := 9) (k := 1) (n := 12) (b := 17) (by decide +kernel) (by decide +kernel) (by decide) rfl (SH_ref (by decide +kernel))).trans ?_
  refine (R_pure0 (ins := .iload_n 1) (len := 1) (loc' := [.ref 2, .int x1, xmk]) (st' := [.int x1, .ref 17]) (by decide +kernel) (fun _ => rfl)).trans ?_
  refine (R_virt (i := 81) (f := 82) (kd := 0) (na := 1) (ml := 2) (ci := 7) (n := 1) (b := 17) (As := [.int x1]) (rest := []) (by decide +kernel) (by decide +kernel) (by decide) (by decide +kernel) rfl (by decide +kernel) rfl rfl (by decide +kernel) (Nat.le_of_ble_eq_true rfl)).trans ?_
  rfl
theorem s108_8 {L : Nat} {mi : Nat → Nat → Int32} {ml : Nat → Nat → Int64} {d : Nat} {Q : Option Value → xM → Prop} {x1 : Int32} {ry : Nat} {n_ry : Nat} (hS_ry : isStrip L ry n_ry) : X 108 8 [.ref 2, .int x1, xmk] [.ref ry] (SH L, mi, ml, MR) (d + 1) Q =
    Xm 87 [.ref ry] (SH L, mi, ml, MR) d (fun v μ' => X 108 19 [.ref 2, .int x1, .ref ry] (v.toList ++ []) μ' (d + 1) Q) := by
  refine (R_pure0 (ins := .astore_n 2) (len := 1) (loc' := [.ref 2, .int x1, .ref ry]) (st' := []) (by decide +kernel) (fun _ => rfl)).trans ?_
  refine (R_pure0 (ins := .aload_n 2) (len := 1) (loc' := [.ref 2, .int x1, .ref ry]) (st' := [.ref ry]) (by decide +kernel) (fun _ => rfl)).trans ?_
  refine (R_ifnonnull_r (off := 5) (t := 15) (by decide +kernel) (by decide +kernel)).trans ?_
  refine (R_pure0 (ins := .aload_n 2) (len := 1) (loc' := [.ref 2, .int x1, .ref ry]) (st' := [.ref ry]) (by decide +kernel) (fun _ => rfl)).trans ?_
  refine (R_virt (i := 102) (f := 87) (kd := 0) (na := 0) (ml := 1) (ci := 8) (n := 2) (b := ry) (As := []) (rest := []) (by decide +kernel) (by decide +kernel) (by decide) (by decide +kernel) rfl (by decide +kernel) hS_ry.1 rfl (by decide +kernel) (Nat.le_of_ble_eq_true rfl)).trans ?_
  rfl
theorem s108_8n {L : Nat} {mi : Nat → Nat → Int32} {ml : Nat → Nat → Int64} {d : Nat} {Q : Option Value → xM → Prop} {x1 : Int32} : X 108 8 [.ref 2, .int x1, xmk] [.null] (SH L, mi, ml, MR) d Q =
    Q (some (.int (-1))) (SH L, mi, ml, MR) := by
  refine (R_pure0 (ins := .astore_n 2) (len := 1) (loc' := [.ref 2, .int x1, .null]) (st' := []) (by decide +kernel) (fun _ => rfl)).trans ?_
  refine (R_pure0 (ins := .aload_n 2) (len := 1) (loc' := [.ref 2, .int x1, .null]) (st' := [.null]) (by decide +kernel) (fun _ => rfl)).trans ?_
  refine (R_ifnonnull_n (off := 5) (by decide +kernel)).trans ?_
  refine (R_iconst (n := (-1)) (v := (-1)) (by decide +kernel) (by decide +kernel)).trans ?_
  exact R_ireturn (by decide +kernel) (by decide +kernel)
theorem s108_19 {L : Nat} {mi : Nat → Nat → Int32} {ml : Nat → Nat → Int64} {d : Nat} {Q : Option Value → xM → Prop} {x1 y : Int32} {r2 : Nat} {n_r2 : Nat} (hS_r2 : isStrip L r2 n_r2) : X 108 19 [.ref 2, .int x1, .ref r2] [.int y] (SH L, mi, ml, MR) (d + 1) Q =
    if (y = 0) then (Xm 64 [.ref 35, .ref r2] (SH L, mi, ml, MR) d (fun v μ' => X 108 36 [.ref 2, .int x1, .ref r2] (v.toList ++ []) μ' (d + 1) Q)) else (Xm 141 [.ref 2, .int 1] (SH L, mi, ml, MR) d (fun v μ' => X 108 27 [.ref 2, .int x1, .ref r2] (v.toList ++ []) μ' (d + 1) Q)) := by
  refine (R_if_eq (off := 9) (t := 28) (by decide +kernel) (by decide +kernel)).trans (ite_congr rfl (fun c0 => ?_) (fun c0 => ?_))
  · refine (R_pure0 (ins := .aload_n 0) (len := 1) (loc' := [.ref 2, .int x1, .ref r2]) (st' := [.ref 2]) (by decide +kernel) (fun _ => rfl)).trans ?_
    refine (R_gr (i := 27) (ci := 9) (k := 3) (n := 12) (b := 35) (by decide +kernel) (by decide +kernel) (by decide) rfl (SH_ref (by decide +kernel))).trans ?_
    refine (R_pure0 (ins := .aload_n 2) (len := 1) (loc' := [.ref 2, .int x1, .ref r2]) (st' := [.ref r2, .ref 35]) (by decide +kernel) (fun _ => rfl)).trans ?_
    refine (R_virt (i := 124) (f := 64) (kd := 0) (na := 1) (ml := 7) (ci := 5) (n := 1) (b := 35) (As := [.ref r2]) (rest := []) (by decide +kernel) (by decide +kernel) (by decide) (by decide +kernel) rfl (by decide +kernel) rfl rfl (by decide +kernel) (Nat.le_of_ble_eq_true rfl)).trans ?_
    rfl
  · refine (R_pure0 (ins := .aload_n 0) (len := 1) (loc' := [.ref 2, .int x1, .ref r2]) (st' := [.ref 2]) (by decide +kernel) (fun _ => rfl)).trans ?_
    refine (R_iconst (n := 1) (v := 1) (by decide +kernel) (by decide +kernel)).trans ?_
    refine (R_virt (i := 106) (f := 141) (kd := 0) (na := 1) (ml := 2) (ci := 9) (n := 12) (b := 2) (As := [.int 1]) (rest := []) (by decide +kernel) (by decide +kernel) (by decide) (by decide +kernel) rfl (by decide +kernel) rfl rfl (by decide +kernel) (Nat.le_of_ble_eq_true rfl)).trans ?_
    rfl
theorem s108_36 {L : Nat} {mi : Nat → Nat → Int32} {ml : Nat → Nat → Int64} {d : Nat} {Q : Option Value → xM → Prop} {x1 y : Int32} {r2 : Nat} {n_r2 : Nat} (hS_r2 : isStrip L r2 n_r2) : X 108 36 [.ref 2, .int x1, .ref r2] [.int y] (SH L, mi, ml, MR) (d + 1) Q =
    if (y = (-9)) then (Xm 21 [.ref 38, .ref 35] (SH L, mi, ml, MR) d (fun v μ' => X 108 55 [.ref 2, .int x1, .ref r2] (v.toList ++ []) μ' (d + 1) Q)) else (Q (some (.int (-4))) (SH L, mi, ml, MR)) := by
  refine (R_bipush (n := (-9)) (v := (-9)) (by decide +kernel) (by decide +kernel)).trans ?_
  refine (R_icmp_eq (off := 6) (t := 44) (by decide +kernel) (by decide +kernel)).trans (ite_congr rfl (fun c0 => ?_) (fun c0 => ?_))
  · refine (R_pure0 (ins := .aload_n 0) (len := 1) (loc' := [.ref 2, .int x1, .ref r2]) (st' := [.ref 2]) (by decide +kernel) (fun _ => rfl)).trans ?_
    refine (R_gr (i := 34) (ci := 9) (k := 4) (n := 12) (b := 38) (by decide +kernel) (by decide +kernel) (by decide) rfl (SH_ref (by decide +kernel))).trans ?_
    refine (R_pure0 (ins := .aload_n 0) (len := 1) (loc' := [.ref 2, .int x1, .ref r2]) (st' := [.ref 2, .ref 38]) (by decide +kernel) (fun _ => rfl)).trans ?_
    refine (R_gr (i := 27) (ci := 9) (k := 3) (n := 12) (b := 35) (by decide +kernel) (by decide +kernel) (by decide) rfl (SH_ref (by decide +kernel))).trans ?_
    refine (R_virt (i := 128) (f := 21) (kd := 0) (na := 1) (ml := 4) (ci := 2) (n := 5) (b := 38) (As := [.ref 35]) (rest := []) (by decide +kernel) (by decide +kernel) (by decide) (by decide +kernel) rfl (by decide +kernel) rfl rfl (by decide +kernel) (Nat.le_of_ble_eq_true rfl)).trans ?_
    rfl
  · refine (R_bipush (n := (-4)) (v := (-4)) (by decide +kernel) (by decide +kernel)).trans ?_
    exact R_ireturn (by decide +kernel) (by decide +kernel)
theorem s108_27 {L : Nat} {mi : Nat → Nat → Int32} {ml : Nat → Nat → Int64} {d : Nat} {Q : Option Value → xM → Prop} {x1 y : Int32} {r2 : Nat} {n_r2 : Nat} (hS_r2 : isStrip L r2 n_r2) : X 108 27 [.ref 2, .int x1, .ref r2] [.int y] (SH L, mi, ml, MR) d Q =
    Q (some (.int y)) (SH L, mi, ml, MR) := by
  exact R_ireturn (by decide +kernel) (by decide +kernel)
theorem s108_55 {L : Nat} {mi : Nat → Nat → Int32} {ml : Nat → Nat → Int64} {d : Nat} {Q : Option Value → xM → Prop} {x1 : Int32} {r2 : Nat} {n_r2 : Nat} (hS_r2 : isStrip L r2 n_r2) : X 108 55 [.ref 2, .int x1, .ref r2] [] (SH L, mi, ml, MR) (d + 1) Q =
    Xm 84 [.ref 27] (SH L, mi, ml, MR) d (fun v μ' => X 108 62 [.ref 2, .int x1, .ref r2] (v.toList ++ []) μ' (d + 1) Q) := by
  refine (R_pure0 (ins := .aload_n 0) (len := 1) (loc' := [.ref 2, .int x1, .ref r2]) (st' := [.ref 2]) (by decide +kernel) (fun _ => rfl)).trans ?_
  refine (R_gr (i := 21) (ci := 9) (k := 2) (n := 12) (b := 27) (by decide +kernel) (by decide +kernel) (by decide) rfl (SH_ref (by decide +kernel))).trans ?_
  refine (R_virt (i := 132) (f := 84) (kd := 0) (na := 0) (ml := 3) (ci := 7) (n := 1) (b := 27) (As := []) (rest := []) (by decide +kernel) (by decide +kernel) (by decide) (by decide +kernel) rfl (by decide +kernel) rfl rfl (by decide +kernel) (Nat.le_of_ble_eq_true rfl)).trans ?_
  rfl
theorem s108_62 {L : Nat} {mi : Nat → Nat → Int32} {ml : Nat → Nat → Int64} {d : Nat} {Q : Option Value → xM → Prop} {x1 : Int32} {r2 : Nat} {n_r2 : Nat} (hS_r2 : isStrip L r2 n_r2) : X 108 62 [.ref 2, .int x1, .ref r2] [] (SH L, mi, ml, MR) (d + 1) Q =
    Xm 16 [.ref 38] (SH L, mi, ml, MR) d (fun v μ' => X 108 69 [.ref 2, .int x1, .ref r2] (v.toList ++ []) μ' (d + 1) Q) := by
  refine (R_pure0 (ins := .aload_n 0) (len := 1) (loc' := [.ref 2, .int x1, .ref r2]) (st' := [.ref 2]) (by decide +kernel) (fun _ => rfl)).trans ?_
  refine (R_gr (i := 34) (ci := 9) (k := 4) (n := 12) (b := 38) (by decide +kernel) (by decide +kernel) (by decide) rfl (SH_ref (by decide +kernel))).trans ?_
  refine (R_virt (i := 135) (f := 16) (kd := 0) (na := 0) (ml := 1) (ci := 2) (n := 5) (b := 38) (As := []) (rest := []) (by decide +kernel) (by decide +kernel) (by decide) (by decide +kernel) rfl (by decide +kernel) rfl rfl (by decide +kernel) (Nat.le_of_ble_eq_true rfl)).trans ?_
  rfl
theorem s108_69 {L : Nat} {mi : Nat → Nat → Int32} {ml : Nat → Nat → Int64} {d : Nat} {Q : Option Value → xM → Prop} {x1 y : Int32} {r2 : Nat} {n_r2 : Nat} (hS_r2 : isStrip L r2 n_r2) : X 108 69 [.ref 2, .int x1, .ref r2] [.int y] (SH L, mi, ml, MR) d Q =
    Q (some (.int y)) (SH L, mi, ml, MR) := by
  exact R_ireturn (by decide +kernel) (by decide +kernel)
theorem s109 {L : Nat} {mi : Nat → Nat → Int32} {ml : Nat → Nat → Int64} {d : Nat} {Q : Option Value → xM → Prop} {x1 x2 : Int32} : Xm 109 [.ref 2, .int x1, .int x2] (SH L, mi, ml, MR) (d + 1) Q =
    Xm 15 [.ref 38, .int x1] (SH L, mi, ml, MR) d (fun v μ' => X 109 8 [.ref 2, .int x1, .int x2, xmk] (v.toList ++ []) μ' (d + 1) Q) := by
  rw [Xm_ent (n := 4) (loc := [.ref 2, .int x1, .int x2, xmk]) (by decide +kernel) rfl]
  refine (R_pure0 (ins := .aload_n 0) (len := 1) (loc' := [.ref 2, .int x1, .int x2, xmk]) (st' := [.ref 2]) (by decide +kernel) (fun _ => rfl)).trans ?_
  refine (R_gr (i := 34) (ci := 9) (k := 4) (n := 12) (b := 38) (by decide +kernel) (by decide +kernel) (by decide) rfl (SH_ref (by decide +kernel))).trans ?_
  refine (R_pure0 (ins := .iload_n 1) (len := 1) (loc' := [.ref 2, .int x1, .int x2, xmk]) (st' := [.int x1, .ref 38]) (by decide +kernel) (fun _ => rfl)).trans ?_
  refine (R_virt (i := 136) (f := 15) (kd := 0) (na := 1) (ml := 2) (ci := 2) (n := 5) (b := 38) (As := [.int x1]) (rest := []) (by decide +kernel) (by decide +kernel) (by decide) (by decide +kernel) rfl (by decide +kernel) rfl rfl (by decide +kernel) (Nat.le_of_ble_eq_true rfl)).trans ?_
  rfl
theorem s109_8 {L : Nat} {mi : Nat → Nat → Int32} {ml : Nat → Nat → Int64} {d : Nat} {Q : Option Value → xM → Prop} {x1 x2 : Int32} {ry : Nat} (hS_ry : (SH L)[ry]? = some (4, 7)) : X 109 8 [.ref 2, .int x1, .int x2, xmk] [.ref ry] (SH L, mi, ml, MR) (d + 1) Q =
    if (x2 < 0) then (Q (some (.int (-1))) (SH L, mi, ml, MR)) else (if ((7 : Int32) < x2) then (Q (some (.int (-1))) (SH L, mi, ml, MR)) else (Xm 18 [.ref 38] (SH L, mi, ml, MR) d (fun v μ' => X 109 35 [.ref 2, .int x1, .int x2, .ref ry] (v.toList ++ [.int x2, .ref ry, .ref 2]) μ' (d + 1) Q))) := by
  refine (R_pure0 (ins := .astore_n 3) (len := 1) (loc' := [.ref 2, .int x1, .int x2, .ref ry]) (st' := []) (by decide +kernel) (fun _ => rfl)).trans ?_
  refine (R_pure0 (ins := .aload_n 3) (len := 1) (loc' := [.ref 2, .int x1, .int x2, .ref ry]) (st' := [.ref ry]) (by decide +kernel) (fun _ => rfl)).trans ?_
  refine (R_ifnull_r (off := 13) (by decide +kernel)).trans ?_
  refine (R_pure0 (ins := .iload_n 2) (len := 1) (loc' := [.ref 2, .int x1, .int x2, .ref ry]) (st' := [.int x2]) (by decide +kernel) (fun _ => rfl)).trans ?_
  refine (R_if_lt (off := 9) (t := 23) (by decide +kernel) (by decide +kernel)).trans (ite_congr rfl (fun c0 => ?_) (fun c0 => ?_))
  · refine (R_iconst (n := (-1)) (v := (-1)) (by decide +kernel) (by decide +kernel)).trans ?_
    exact R_ireturn (by decide +kernel) (by decide +kernel)
  · refine (R_pure0 (ins := .iload_n 2) (len := 1) (loc' := [.ref 2, .int x1, .int x2, .ref ry]) (st' := [.int x2]) (by decide +kernel) (fun _ => rfl)).trans ?_
    refine (R_bipush (n := 7) (v := 7) (by decide +kernel) (by decide +kernel)).trans ?_
    refine (R_icmp_le (off := 5) (t := 25) (by decide +kernel) (by decide +kernel)).trans (ite_congr rfl (fun c1 => ?_) (fun c1 => ?_))
    · refine (R_iconst (n := (-1)) (v := (-1)) (by decide +kernel) (by decide +kernel)).trans ?_
      exact R_ireturn (by decide +kernel) (by decide +kernel)
    · refine (R_pure0 (ins := .aload_n 0) (len := 1) (loc' := [.ref 2, .int x1, .int x2, .ref ry]) (st' := [.ref 2]) (by decide +kernel) (fun _ => rfl)).trans ?_
      refine (R_pure0 (ins := .aload_n 3) (len := 1) (loc' := [.ref 2, .int x1, .int x2, .ref ry]) (st' := [.ref ry, .ref 2]) (by decide +kernel) (fun _ => rfl)).trans ?_
      refine (R_pure0 (ins := .iload_n 2) (len := 1) (loc' := [.ref 2, .int x1, .int x2, .ref ry]) (st' := [.int x2, .ref ry, .ref 2]) (by decide +kernel) (fun _ => rfl)).trans ?_
      refine (R_pure0 (ins := .aload_n 0) (len := 1) (loc' := [.ref 2, .int x1, .int x2, .ref ry]) (st' := [.ref 2, .int x2, .ref ry, .ref 2]) (by decide +kernel) (fun _ => rfl)).trans ?_
      refine (R_gr (i := 34) (ci := 9) (k := 4) (n := 12) (b := 38) (by decide +kernel) (by decide +kernel) (by decide) rfl (SH_ref (by decide +kernel))).trans ?_
      refine (R_virt (i := 140) (f := 18) (kd := 0) (na := 0) (ml := 1) (ci := 2) (n := 5) (b := 38) (As := []) (rest := [.int x2, .ref ry, .ref 2]) (by decide +kernel) (by decide +kernel) (by decide) (by decide +kernel) rfl (by decide +kernel) rfl rfl (by decide +kernel) (Nat.le_of_ble_eq_true rfl)).trans ?_
      rfl
theorem s109_8n {L : Nat} {mi : Nat → Nat → Int32} {ml : Nat → Nat → Int64} {d : Nat} {Q : Option Value → xM → Prop} {x1 x2 : Int32} : X 109 8 [.ref 2, .int x1, .int x2, xmk] [.null] (SH L, mi, ml, MR) d Q =
    Q (some (.int (-1))) (SH L, mi, ml, MR) := by
  refine (R_pure0 (ins := .astore_n 3) (len := 1) (loc' := [.ref 2, .int x1, .int x2, .null]) (st' := []) (by decide +kernel) (fun _ => rfl)).trans ?_
  refine (R_pure0 (ins := .aload_n 3) (len := 1) (loc' := [.ref 2, .int x1, .int x2, .null]) (st' := [.null]) (by decide +kernel) (fun _ => rfl)).trans ?_
  refine (R_ifnull_n (off := 13) (t := 23) (by decide +kernel) (by decide +kernel)).trans ?_
  refine (R_iconst (n := (-1)) (v := (-1)) (by decide +kernel) (by decide +kernel)).trans ?_
  exact R_ireturn (by decide +kernel) (by decide +kernel)
theorem s109_35 {L : Nat} {mi : Nat → Nat → Int32} {ml : Nat → Nat → Int64} {d : Nat} {Q : Option Value → xM → Prop} {x1 x2 y z0 : Int32} {r3 : Nat} (hS_r3 : (SH L)[r3]? = some (4, 7)) : X 109 35 [.ref 2, .int x1, .int x2, .ref r3] [.int y, .int z0, .ref r3, .ref 2] (SH L, mi, ml, MR) (d + 1) Q =
    Xm 60 [.ref r3, .int z0, .int y] (SH L, mi, ml, MR) d (fun v μ' => X 109 38 [.ref 2, .int x1, .int x2, .ref r3] (v.toList ++ [.ref 2]) μ' (d + 1) Q) := by
  refine (R_virt (i := 143) (f := 60) (kd := 0) (na := 2) (ml := 3) (ci := 4) (n := 7) (b := r3) (As := [.int z0, .int y]) (rest := [.ref 2]) (by decide +kernel) (by decide +kernel) (by decide) (by decide +kernel) rfl (by decide +kernel) hS_r3 rfl (by decide +kernel) (Nat.le_of_ble_eq_true rfl)).trans ?_
  rfl
theorem s109_38 {L : Nat} {mi : Nat → Nat → Int32} {ml : Nat → Nat → Int64} {d : Nat} {Q : Option Value → xM → Prop} {x1 x2 y : Int32} {r3 : Nat} (hS_r3 : (SH L)[r3]? = some (4, 7)) : X 109 38 [.ref 2, .int x1, .int x2, .ref r3] [.int y, .ref 2] (SH L, mi, ml, MR) d Q =
    Q (some (.int 1)) (SH L, (xw mi 2 11 y), ml, MR) := by
  refine (R_pi (i := 78) (ci := 9) (k := 11) (n := 12) (by decide +kernel) (by decide +kernel) (by decide) rfl).trans ?_
  refine (R_iconst (n := 1) (v := 1) (by decide +kernel) (by decide +kernel)).trans ?_
  exact R_ireturn (by decide +kernel) (by decide +kernel)
theorem s110 {L : Nat} {mi : Nat → Nat → Int32} {ml : Nat → Nat → Int64} {d : Nat} {Q : Option Value → xM → Prop} {x1 x2 : Int32} : Xm 110 [.ref 2, .int x1, .int x2] (SH L, mi, ml, MR) (d + 1) Q =
    Xm 15 [.ref 38, .int x1] (SH L, mi, ml, MR) d (fun v μ' => X 110 8 [.ref 2, .int x1, .int x2, xmk] (v.toList ++ []) μ' (d + 1) Q) := by
  rw [Xm_ent (n := 4) (loc := [.ref 2, .int x1, .int x2, xmk]) (by decide +kernel) rfl]
  refine (R_pure0 (ins := .aload_n 0) (len := 1) (loc' := [.ref 2, .int x1, .int x2, xmk]) (st' := [.ref 2]) (by decide +kernel) (fun _ => rfl)).trans ?_
  refine (R_gr (i := 34) (ci := 9) (k := 4) (n := 12) (b := 38) (by decide +kernel) (by decide +kernel) (by decide) rfl (SH_ref (by decide +kernel))).trans ?_
  refine (R_pure0 (ins := .iload_n 1) (len := 1) (loc' := [.ref 2, .int x1, .int x2, xmk]) (st' := [.int x1, .ref 38]) (by decide +kernel) (fun _ => rfl)).trans ?_
  refine (R_virt (i := 136) (f := 15) (kd := 0) (na := 1) (ml := 2) (ci := 2) (n := 5) (b := 38) (As := [.int x1]) (rest := []) (by decide +kernel) (by decide +kernel) (by decide) (by decide +kernel) rfl (by decide +kernel) rfl rfl (by decide +kernel) (Nat.le_of_ble_eq_true rfl)).trans ?_
  rfl
theorem s110_8 {L : Nat} {mi : Nat → Nat → Int32} {ml : Nat → Nat → Int64} {d : Nat} {Q : Option Value → xM → Prop} {x1 x2 : Int32} {ry : Nat} (hS_ry : (SH L)[ry]? = some (4, 7)) : X 110 8 [.ref 2, .int x1, .int x2, xmk] [.ref ry] (SH L, mi, ml, MR) (d + 1) Q =
    if ((0 : Int32) < x2) then (if (x2 < 6) then (Xm 45 [.int (mi ry 0), .int x2] (SH L, mi, ml, MR) d (fun v μ' => X 110 33 [.ref 2, .int x1, .int x2, .ref ry] (v.toList ++ []) μ' (d + 1) Q)) else (Q (some (.int (-1))) (SH L, mi, ml, MR))) else (Q (some (.int (-1))) (SH L, mi, ml, MR)) := by
  refine (R_pure0 (ins := .astore_n 3) (len := 1) (loc' := [.ref 2, .int x1, .int x2, .ref ry]) (st' := []) (by decide +kernel) (fun _ => rfl)).trans ?_
  refine (R_pure0 (ins := .aload_n 3) (len := 1) (loc' := [.ref 2, .int x1, .int x2, .ref ry]) (st' := [.ref ry]) (by decide +kernel) (fun _ => rfl)).trans ?_
  refine (R_ifnull_r (off := 13) (by decide +kernel)).trans ?_
  refine (R_pure0 (ins := .iload_n 2) (len := 1) (loc' := [.ref 2, .int x1, .int x2, .ref ry]) (st' := [.int x2]) (by decide +kernel) (fun _ => rfl)).trans ?_
  refine (R_if_le (off := 9) (t := 23) (by decide +kernel) (by decide +kernel)).trans (ite_congr rfl (fun c0 => ?_) (fun c0 => ?_))
  · refine (R_pure0 (ins := .iload_n 2) (len := 1) (loc' := [.ref 2, .int x1, .int x2, .ref ry]) (st' := [.int x2]) (by decide +kernel) (fun _ => rfl)).trans ?_
    refine (R_bipush (n := 6) (v := 6) (by decide +kernel) (by decide +kernel)).trans ?_
    refine (R_icmp_lt (off := 5) (t := 25) (by decide +kernel) (by decide +kernel)).trans (ite_congr rfl (fun c1 => ?_) (fun c1 => ?_))
    · refine (R_pure0 (ins := .aload_n 3) (len := 1) (loc' := [.ref 2, .int x1, .int x2, .ref ry]) (st' := [.ref ry]) (by decide +kernel) (fun _ => rfl)).trans ?_
      refine (R_gi (i := 149) (ci := 4) (k := 0) (n := 7) (by decide +kernel) (by decide +kernel) (by decide) hS_ry).trans ?_
      refine (R_pure0 (ins := .iload_n 2) (len := 1) (loc' := [.ref 2, .int x1, .int x2, .ref ry]) (st' := [.int x2, .int (mi ry 0)]) (by decide +kernel) (fun _ => rfl)).trans ?_
      refine (R_static (i := 152) (f := 45) (kd := 2) (na := 2) (ml := 2) (As := [.int (mi ry 0), .int x2]) (rest := []) (by decide +kernel) (by decide +kernel) (by decide) (by decide +kernel) rfl rfl (by decide +kernel) (Nat.le_of_ble_eq_true rfl)).trans ?_
      rfl
    · refine (R_iconst (n := (-1)) (v := (-1)) (by decide +kernel) (by decide +kernel)).trans ?_
      exact R_ireturn (by decide +kernel) (by decide +kernel)
  · refine (R_iconst (n := (-1)) (v := (-1)) (by decide +kernel) (by decide +kernel)).trans ?_
    exact R_ireturn (by decide +kernel) (by decide +kernel)
theorem s110_8n {L : Nat} {mi : Nat → Nat → Int32} {ml : Nat → Nat → Int64} {d : Nat} {Q : Option Value → xM → Prop} {x1 x2 : Int32} : X 110 8 [.ref 2, .int x1, .int x2, xmk] [.null] (SH L, mi, ml, MR) d Q =
    Q (some (.int (-1))) (SH L, mi, ml, MR) := by
  refine (R_pure0 (ins := .astore_n 3) (len := 1) (loc' := [.ref 2, .int x1, .int x2, .null]) (st' := []) (by decide +kernel) (fun _ => rfl)).trans ?_
  refine (R_pure0 (ins := .aload_n 3) (len := 1) (loc' := [.ref 2, .int x1, .int x2, .null]) (st' := [.null]) (by decide +kernel) (fun _ => rfl)).trans ?_
  refine (R_ifnull_n (off := 13) (t := 23) (by decide +kernel) (by decide +kernel)).trans ?_
  refine (R_iconst (n := (-1)) (v := (-1)) (by decide +kernel) (by decide +kernel)).trans ?_
  exact R_ireturn (by decide +kernel) (by decide +kernel)
theorem s110_33 {L : Nat} {mi : Nat → Nat → Int32} {ml : Nat → Nat → Int64} {d : Nat} {Q : Option Value → xM → Prop} {x1 x2 y : Int32} {r3 : Nat} (hS_r3 : (SH L)[r3]? = some (4, 7)) : X 110 33 [.ref 2, .int x1, .int x2, .ref r3] [.int y] (SH L, mi, ml, MR) (d + 1) Q =
    if (y = 0) then (Xm 141 [.ref 2, .int 3] (SH L, mi, ml, MR) d (fun v μ' => X 110 41 [.ref 2, .int x1, .int x2, .ref r3] (v.toList ++ []) μ' (d + 1) Q)) else (Xm 18 [.ref 38] (SH L, mi, ml, MR) d (fun v μ' => X 110 51 [.ref 2, .int x1, .int x2, .ref r3] (v.toList ++ [.int x2, .ref r3]) μ' (d + 1) Q)) := by
  refine (R_if_ne (off := 9) (t := 42) (by decide +kernel) (by decide +kernel)).trans (ite_congr rfl (fun c0 => ?_) (fun c0 => ?_))
  · refine (R_pure0 (ins := .aload_n 0) (len := 1) (loc' := [.ref 2, .int x1, .int x2, .ref r3]) (st' := [.ref 2]) (by decide +kernel) (fun _ => rfl)).trans ?_
    refine (R_iconst (n := 3) (v := 3) (by decide +kernel) (by decide +kernel)).trans ?_
    refine (R_virt (i := 106) (f := 141) (kd := 0) (na := 1) (ml := 2) (ci := 9) (n := 12) (b := 2) (As := [.int 3]) (rest := []) (by decide +kernel) (by decide +kernel) (by decide) (by decide +kernel) rfl (by decide +kernel) rfl rfl (by decide +kernel) (Nat.le_of_ble_eq_true rfl)).trans ?_
    rfl
  · refine (R_pure0 (ins := .aload_n 3) (len := 1) (loc' := [.ref 2, .int x1, .int x2, .ref r3]) (st' := [.ref r3]) (by decide +kernel) (fun _ => rfl)).trans ?_
    refine (R_pure0 (ins := .iload_n 2) (len := 1) (loc' := [.ref 2, .int x1, .int x2, .ref r3]) (st' := [.int x2, .ref r3]) (by decide +kernel) (fun _ => rfl)).trans ?_
    refine (R_pure0 (ins := .aload_n 0) (len := 1) (loc' := [.ref 2, .int x1, .int x2, .ref r3]) (st' := [.ref 2, .int x2, .ref r3]) (by decide +kernel) (fun _ => rfl)).trans ?_
    refine (R_gr (i := 34) (ci := 9) (k := 4) (n := 12) (b := 38) (by decide +kernel) (by decide +kernel) (by decide) rfl (SH_ref (by decide +kernel))).trans ?_
    refine (R_virt (i := 140) (f := 18) (kd := 0) (na := 0) (ml := 1) (ci := 2) (n := 5) (b := 38) (As := []) (rest := [.int x2, .ref r3]) (by decide +kernel) (by decide +kernel) (by decide) (by decide +kernel) rfl (by decide +kernel) rfl rfl (by decide +kernel) (Nat.le_of_ble_eq_true rfl)).trans ?_
    rfl
theorem s110_41 {L : Nat} {mi : Nat → Nat → Int32} {ml : Nat → Nat → Int64} {d : Nat} {Q : Option Value → xM → Prop} {x1 x2 y : Int32} {r3 : Nat} (hS_r3 : (SH L)[r3]? = some (4, 7)) : X 110 41 [.ref 2, .int x1, .int x2, .ref r3] [.int y] (SH L, mi, ml, MR) d Q =
    Q (some (.int y)) (SH L, mi, ml, MR) := by
  exact R_ireturn (by decide +kernel) (by decide +kernel)
theorem s110_51 {L : Nat} {mi : Nat → Nat → Int32} {ml : Nat → Nat → Int64} {d : Nat} {Q : Option Value → xM → Prop} {x1 x2 y z0 : Int32} {r3 : Nat} (hS_r3 : (SH L)[r3]? = some (4, 7)) : X 110 51 [.ref 2, .int x1, .int x2, .ref r3] [.int y, .int z0, .ref r3] (SH L, mi, ml, MR) (d + 1) Q =
    Xm 61 [.ref r3, .int z0, .int y] (SH L, mi, ml, MR) d (fun v μ' => X 110 54 [.ref 2, .int x1, .int x2, .ref r3] (v.toList ++ []) μ' (d + 1) Q) := by
  refine (R_virt (i := 157) (f := 61) (kd := 0) (na := 2) (ml := 4) (ci := 4) (n := 7) (b := r3) (As := [.int z0, .int y]) (rest := []) (by decide +kernel) (by decide +kernel) (by decide) (by decide +kernel) rfl (by decide +kernel) hS_r3 rfl (by decide +kernel) (Nat.le_of_ble_eq_true rfl)).trans ?_
  rfl
theorem s110_54 {L : Nat} {mi : Nat → Nat → Int32} {ml : Nat → Nat → Int64} {d : Nat} {Q : Option Value → xM → Prop} {x1 x2 y : Int32} {r3 : Nat} (hS_r3 : (SH L)[r3]? = some (4, 7)) : X 110 54 [.ref 2, .int x1, .int x2, .ref r3] [.int y] (SH L, mi, ml, MR) d Q =
    Q (some (.int y)) (SH L, mi, ml, MR) := by
  exact R_ireturn (by decide +kernel) (by decide +kernel)
theorem s111 {L : Nat} {mi : Nat → Nat → Int32} {ml : Nat → Nat → Int64} {d : Nat} {Q : Option Value → xM → Prop} {x1 x2 : Int32} : Xm 111 [.ref 2, .int x1, .int x2] (SH L, mi, ml, MR) (d + 1) Q =
    Xm 15 [.ref 38, .int x1] (SH L, mi, ml, MR) d (fun v μ' => X 111 8 [.ref 2, .int x1, .int x2, xmk] (v.toList ++ []) μ' (d + 1) Q) := by
  rw [Xm_ent (n := 4) (loc := [.ref 2, .int x1, .int x2, xmk]) (by decide +kernel) rfl]
  refine (R_pure0 (ins := .aload_n 0) (len := 1) (loc' := [.ref 2, .int x1, .int x2, xmk]) (st' := [.ref 2]) (by decide +kernel) (fun _ => rfl)).trans ?_
  refine (R_gr (i := 34) (ci := 9) (k := 4) (n := 12) (b := 38) (by decide +kernel) (by decide +kernel) (by decide) rfl (SH_ref (by decide +kernel))).trans ?_
  refine (R_pure0 (ins := .iload_n 1) (len := 1) (loc' := [.ref 2, .int x1, .int x2, xmk]) (st' := [.int x1, .ref 38]) (by decide +kernel) (fun _ => rfl)).trans ?_
  refine (R_virt (i := 136) (f := 15) (kd := 0) (na := 1) (ml := 2) (ci := 2) (n := 5) (b := 38) (As := [.int x1]) (rest := []) (by decide +kernel) (by decide +kernel) (by decide) (by decide +kernel) rfl (by decide +kernel) rfl rfl (by decide +kernel) (Nat.le_of_ble_eq_true rfl)).trans ?_
  rfl
theorem s111_8 {L : Nat} {mi : Nat → Nat → Int32} {ml : Nat → Nat → Int64} {d : Nat} {Q : Option Value → xM → Prop} {x1 x2 : Int32} {ry : Nat} (hS_ry : (SH L)[ry]? = some (4, 7)) : X 111 8 [.ref 2, .int x1, .int x2, xmk] [.ref ry] (SH L, mi, ml, MR) (d + 1) Q =
    Xm 142 [.int x2] (SH L, mi, ml, MR) d (fun v μ' => X 111 17 [.ref 2, .int x1, .int x2, .ref ry] (v.toList ++ []) μ' (d + 1) Q) := by
  refine (R_pure0 (ins := .astore_n 3) (len := 1) (loc' := [.ref 2, .int x1, .int x2, .ref ry]) (st' := []) (by decide +kernel) (fun _ => rfl)).trans ?_
  refine (R_pure0 (ins := .aload_n 3) (len := 1) (loc' := [.ref 2, .int x1, .int x2, .ref ry]) (st' := [.ref ry]) (by decide +kernel) (fun _ => rfl)).trans ?_
  refine (R_ifnull_r (off := 10) (by decide +kernel)).trans ?_
  refine (R_pure0 (ins := .iload_n 2) (len := 1) (loc' := [.ref 2, .int x1, .int x2, .ref ry]) (st' := [.int x2]) (by decide +kernel) (fun _ => rfl)).trans ?_
  refine (R_static (i := 160) (f := 142) (kd := 2) (na := 1) (ml := 1) (As := [.int x2]) (rest := []) (by decide +kernel) (by decide +kernel) (by decide) (by decide +kernel) rfl rfl (by decide +kernel) (Nat.le_of_ble_eq_true rfl)).trans ?_
  rfl
theorem s111_8n {L : Nat} {mi : Nat → Nat → Int32} {ml : Nat → Nat → Int64} {d : Nat} {Q : Option Value → xM → Prop} {x1 x2 : Int32} : X 111 8 [.ref 2, .int x1, .int x2, xmk] [.null] (SH L, mi, ml, MR) d Q =
    Q (some (.int (-1))) (SH L, mi, ml, MR) := by
  refine (R_pure0 (ins := .astore_n 3) (len := 1) (loc' := [.ref 2, .int x1, .int x2, .null]) (st' := []) (by decide +kernel) (fun _ => rfl)).trans ?_
  refine (R_pure0 (ins := .aload_n 3) (len := 1) (loc' := [.ref 2, .int x1, .int x2, .null]) (st' := [.null]) (by decide +kernel) (fun _ => rfl)).trans ?_
  refine (R_ifnull_n (off := 10) (t := 20) (by decide +kernel) (by decide +kernel)).trans ?_
  refine (R_iconst (n := (-1)) (v := (-1)) (by decide +kernel) (by decide +kernel)).trans ?_
  refine (R_goto (off := 8) (t := 29) (by decide +kernel) (by decide +kernel)).trans ?_
  exact R_ireturn (by decide +kernel) (by decide +kernel)
theorem s111_17 {L : Nat} {mi : Nat → Nat → Int32} {ml : Nat → Nat → Int64} {d : Nat} {Q : Option Value → xM → Prop} {x1 x2 y : Int32} {r3 : Nat} (hS_r3 : (SH L)[r3]? = some (4, 7)) : X 111 17 [.ref 2, .int x1, .int x2, .ref r3] [.int y] (SH L, mi, ml, MR) (d + 1) Q =
    if (y = 0) then (Q (some (.int (-1))) (SH L, mi, ml, MR)) else (Xm 53 [.ref r3, .int x2] (SH L, mi, ml, MR) d (fun v μ' => X 111 29 [.ref 2, .int x1, .int x2, .ref r3] (v.toList ++ []) μ' (d + 1) Q)) := by
  refine (R_if_ne (off := 7) (t := 24) (by decide +kernel) (by decide +kernel)).trans (ite_congr rfl (fun c0 => ?_) (fun c0 => ?_))
  · refine (R_iconst (n := (-1)) (v := (-1)) (by decide +kernel) (by decide +kernel)).trans ?_
    refine (R_goto (off := 8) (t := 29) (by decide +kernel) (by decide +kernel)).trans ?_
    exact R_ireturn (by decide +kernel) (by decide +kernel)
  · refine (R_pure0 (ins := .aload_n 3) (len := 1) (loc' := [.ref 2, .int x1, .int x2, .ref r3]) (st' := [.ref r3]) (by decide +kernel) (fun _ => rfl)).trans ?_
    refine (R_pure0 (ins := .iload_n 2) (len := 1) (loc' := [.ref 2, .int x1, .int x2, .ref r3]) (st' := [.int x2, .ref r3]) (by decide +kernel) (fun _ => rfl)).trans ?_
    refine (R_virt (i := 164) (f := 53) (kd := 0) (na := 1) (ml := 2) (ci := 4) (n := 7) (b := r3) (As := [.int x2]) (rest := []) (by decide +kernel) (by decide +kernel) (by decide) (by decide +kernel) rfl (by decide +kernel) hS_r3 rfl (by decide +kernel) (Nat.le_of_ble_eq_true rfl)).trans ?_
    rfl
theorem s111_29 {L : Nat} {mi : Nat → Nat → Int32} {ml : Nat → Nat → Int64} {d : Nat} {Q : Option Value → xM → Prop} {x1 x2 y : Int32} {r3 : Nat} (hS_r3 : (SH L)[r3]? = some (4, 7)) : X 111 29 [.ref 2, .int x1, .int x2, .ref r3] [.int y] (SH L, mi, ml, MR) d Q =
    Q (some (.int y)) (SH L, mi, ml, MR) := by
  exact R_ireturn (by decide +kernel) (by decide +kernel)
theorem s112 {L : Nat} {mi : Nat → Nat → Int32} {ml : Nat → Nat → Int64} {d : Nat} {Q : Option Value → xM → Prop} : Xm 112 [.ref 2] (SH L, mi, ml, MR) (d + 1) Q =
    Xm 17 [.ref 38] (SH L, mi, ml, MR) d (fun v μ' => X 112 7 [.ref 2] (v.toList ++ []) μ' (d + 1) Q) := by
  rw [Xm_ent (n := 1) (loc := [.ref 2]) (by decide +kernel) rfl]
  refine (R_pure0 (ins := .aload_n 0) (len := 1) (loc' := [.ref 2]) (st' := [.ref 2]) (by decide +kernel) (fun _ => rfl)).trans ?_
  refine (R_gr (i := 34) (ci := 9) (k := 4) (n := 12) (b := 38) (by decide +kernel) (by decide +kernel) (by decide) rfl (SH_ref (by decide +kernel))).trans ?_
  refine (R_virt (i := 167) (f := 17) (kd := 0) (na := 0) (ml := 1) (ci := 2) (n := 5) (b := 38) (As := []) (rest := []) (by decide +kernel) (by decide +kernel) (by decide) (by decide +kernel) rfl (by decide +kernel) rfl rfl (by decide +kernel) (Nat.le_of_ble_eq_true rfl)).trans ?_
  rfl
theorem s112_7 {L : Nat} {mi : Nat → Nat → Int32} {ml : Nat → Nat → Int64} {d : Nat} {Q : Option Value → xM → Prop} {y : Int32} : X 112 7 [.ref 2] [.int y] (SH L, mi, ml, MR) (d + 1) Q =
    if (y = 0) then (Xm 22 [.ref 38, .int 1] (SH L, mi, ml, MR) d (fun v μ' => X 112 21 [.ref 2] (v.toList ++ []) μ' (d + 1) Q)) else (Q (some (.int (-4))) (SH L, mi, ml, MR)) := by
  refine (R_if_eq (off := 6) (t := 13) (by decide +kernel) (by decide +kernel)).trans (ite_congr rfl (fun c0 => ?_) (fun c0 => ?_))
  · refine (R_pure0 (ins := .aload_n 0) (len := 1) (loc' := [.ref 2]) (st' := [.ref 2]) (by decide +kernel) (fun _ => rfl)).trans ?_
    refine (R_gr (i := 34) (ci := 9) (k := 4) (n := 12) (b := 38) (by decide +kernel) (by decide +kernel) (by decide) rfl (SH_ref (by decide +kernel))).trans ?_
    refine (R_iconst (n := 1) (v := 1) (by decide +kernel) (by decide +kernel)).trans ?_
    refine (R_virt (i := 170) (f := 22) (kd := 0) (na := 1) (ml := 2) (ci := 2) (n := 5) (b := 38) (As := [.int 1]) (rest := []) (by decide +kernel) (by decide +kernel) (by decide) (by decide +kernel) rfl (by decide +kernel) rfl rfl (by decide +kernel) (Nat.le_of_ble_eq_true rfl)).trans ?_
    rfl
  · refine (R_bipush (n := (-4)) (v := (-4)) (by decide +kernel) (by decide +kernel)).trans ?_
    exact R_ireturn (by decide +kernel) (by decide +kernel)
theorem s112_21 {L : Nat} {mi : Nat → Nat → Int32} {ml : Nat → Nat → Int64} {d : Nat} {Q : Option Value → xM → Prop} {y : Int32} : X 112 21 [.ref 2] [.int y] (SH L, mi, ml, MR) (d + 1) Q =
    if (y = 0) then (Xm 23 [.ref 38, .int 0, .int 0] (SH L, mi, ml, MR) d (fun v μ' => X 112 36 [.ref 2] (v.toList ++ []) μ' (d + 1) Q)) else (Q (some (.int (-2))) (SH L, mi, ml, MR)) := by
  refine (R_if_eq (off := 6) (t := 27) (by decide +kernel) (by decide +kernel)).trans (ite_congr rfl (fun c0 => ?_) (fun c0 => ?_))
  · refine (R_pure0 (ins := .aload_n 0) (len := 1) (loc' := [.ref 2]) (st' := [.ref 2]) (by decide +kernel) (fun _ => rfl)).trans ?_
    refine (R_gr (i := 34) (ci := 9) (k := 4) (n := 12) (b := 38) (by decide +kernel) (by decide +kernel) (by decide) rfl (SH_ref (by decide +kernel))).trans ?_
    refine (R_iconst (n := 0) (v := 0) (by decide +kernel) (by decide +kernel)).trans ?_
    refine (R_iconst (n := 0) (v := 0) (by decide +kernel) (by decide +kernel)).trans ?_
    refine (R_virt (i := 173) (f := 23) (kd := 0) (na := 2) (ml := 3) (ci := 2) (n := 5) (b := 38) (As := [.int 0, .int 0]) (rest := []) (by decide +kernel) (by decide +kernel) (by decide) (by decide +kernel) rfl (by decide +kernel) rfl rfl (by decide +kernel) (Nat.le_of_ble_eq_true rfl)).trans ?_
    rfl
  · refine (R_bipush (n := (-2)) (v := (-2)) (by decide +kernel) (by decide +kernel)).trans ?_
    exact R_ireturn (by decide +kernel) (by decide +kernel)
theorem s112_36 {L : Nat} {mi : Nat → Nat → Int32} {ml : Nat → Nat → Int64} {d : Nat} {Q : Option Value → xM → Prop} : X 112 36 [.ref 2] [] (SH L, mi, ml, MR) (d + 1) Q =
    Xm 18 [.ref 38] (SH L, mi, ml, MR) d (fun v μ' => X 112 43 [.ref 2] (v.toList ++ []) μ' (d + 1) Q) := by
  refine (R_pure0 (ins := .aload_n 0) (len := 1) (loc' := [.ref 2]) (st' := [.ref 2]) (by decide +kernel) (fun _ => rfl)).trans ?_
  refine (R_gr (i := 34) (ci := 9) (k := 4) (n := 12) (b := 38) (by decide +kernel) (by decide +kernel) (by decide) rfl (SH_ref (by decide +kernel))).trans ?_
  refine (R_virt (i := 140) (f := 18) (kd := 0) (na := 0) (ml := 1) (ci := 2) (n := 5) (b := 38) (As := []) (rest := []) (by decide +kernel) (by decide +kernel) (by decide) (by decide +kernel) rfl (by decide +kernel) rfl rfl (by decide +kernel) (Nat.le_of_ble_eq_true rfl)).trans ?_
  rfl
theorem s112_43 {L : Nat} {mi : Nat → Nat → Int32} {ml : Nat → Nat → Int64} {d : Nat} {Q : Option Value → xM → Prop} {y : Int32} : X 112 43 [.ref 2] [.int y] (SH L, mi, ml, MR) d Q =
    Q (some (.int y)) (SH L, mi, ml, MR) := by
  exact R_ireturn (by decide +kernel) (by decide +kernel)
theorem s113 {L : Nat} {mi : Nat → Nat → Int32} {ml : Nat → Nat → Int64} {d : Nat} {Q : Option Value → xM → Prop} {x1 : Int32} : Xm 113 [.ref 2, .int x1] (SH L, mi, ml, MR) (d + 1) Q =
    Xm 15 [.ref 38, .int x1] (SH L, mi, ml, MR) d (fun v μ' => X 113 8 [.ref 2, .int x1, xmk] (v.toList ++ []) μ' (d + 1) Q) := by
  rw [Xm_ent (n := 3) (loc := [.ref 2, .int x1, xmk]) (by decide +kernel) rfl]
  refine (R_pure0 (ins := .aload_n 0) (len := 1) (loc' := [.ref 2, .int x1, xmk]) (st' := [.ref 2]) (by decide +kernel) (fun _ => rfl)).trans ?_
  refine (R_gr (i := 34) (ci := 9) (k := 4) (n := 12) (b := 38) (by decide +kernel) (by decide +kernel) (by decide) rfl (SH_ref (by decide +kernel))).trans ?_
  refine (R_pure0 (ins := .iload_n 1) (len := 1) (loc' := [.ref 2, .int x1, xmk]) (st' := [.int x1, .ref 38]) (by decide +kernel) (fun _ => rfl)).trans ?_
  refine (R_virt (i := 136) (f := 15) (kd := 0) (na := 1) (ml := 2) (ci := 2) (n := 5) (b := 38) (As := [.int x1]) (rest := []) (by decide +kernel) (by decide +kernel) (by decide) (by decide +kernel) rfl (by decide +kernel) rfl rfl (by decide +kernel) (Nat.le_of_ble_eq_true rfl)).trans ?_
  rfl
theorem s113_8 {L : Nat} {mi : Nat → Nat → Int32} {ml : Nat → Nat → Int64} {d : Nat} {Q : Option Value → xM → Prop} {x1 : Int32} {ry : Nat} (hS_ry : (SH L)[ry]? = some (4, 7)) : X 113 8 [.ref 2, .int x1, xmk] [.ref ry] (SH L, mi, ml, MR) (d + 1) Q =
    Xm 56 [.ref ry] (SH L, mi, ml, MR) d (fun v μ' => X 113 19 [.ref 2, .int x1, .ref ry] (v.toList ++ []) μ' (d + 1) Q) := by
  refine (R_pure0 (ins := .astore_n 2) (len := 1) (loc' := [.ref 2, .int x1, .ref ry]) (st' := []) (by decide +kernel) (fun _ => rfl)).trans ?_
  refine (R_pure0 (ins := .aload_n 2) (len := 1) (loc' := [.ref 2, .int x1, .ref ry]) (st' := [.ref ry]) (by decide +kernel) (fun _ => rfl)).trans ?_
  refine (R_ifnonnull_r (off := 5) (t := 15) (by decide +kernel) (by decide +kernel)).trans ?_
  refine (R_pure0 (ins := .aload_n 2) (len := 1) (loc' := [.ref 2, .int x1, .ref ry]) (st' := [.ref ry]) (by decide +kernel) (fun _ => rfl)).trans ?_
  refine (R_virt (i := 176) (f := 56) (kd := 0) (na := 0) (ml := 1) (ci := 4) (n := 7) (b := ry) (As := []) (rest := []) (by decide +kernel) (by decide +kernel) (by decide) (by decide +kernel) rfl (by decide +kernel) hS_ry rfl (by decide +kernel) (Nat.le_of_ble_eq_true rfl)).trans ?_
  rfl
theorem s113_8n {L : Nat} {mi : Nat → Nat → Int32} {ml : Nat → Nat → Int64} {d : Nat} {Q : Option Value → xM → Prop} {x1 : Int32} : X 113 8 [.ref 2, .int x1, xmk] [.null] (SH L, mi, ml, MR) d Q =
    Q (some (.int (-1))) (SH L, mi, ml, MR) := by
  refine (R_pure0 (ins := .astore_n 2) (len := 1) (loc' := [.ref 2, .int x1, .null]) (st' := []) (by decide +kernel) (fun _ => rfl)).trans ?_
  refine (R_pure0 (ins := .aload_n 2) (len := 1) (loc' := [.ref 2, .int x1, .null]) (st' := [.null]) (by decide +kernel) (fun _ => rfl)).trans ?_
  refine (R_ifnonnull_n (off := 5) (by decide +kernel)).trans ?_
  refine (R_iconst (n := (-1)) (v := (-1)) (by decide +kernel) (by decide +kernel)).trans ?_
  exact R_ireturn (by decide +kernel) (by decide +kernel)
theorem s113_19 {L : Nat} {mi : Nat → Nat → Int32} {ml : Nat → Nat → Int64} {d : Nat} {Q : Option Value → xM → Prop} {x1 y : Int32} {r2 : Nat} (hS_r2 : (SH L)[r2]? = some (4, 7)) : X 113 19 [.ref 2, .int x1, .ref r2] [.int y] (SH L, mi, ml, MR) (d + 1) Q =
    if (y = 0) then (Q (some (.int (-4))) (SH L, mi, ml, MR)) else (Xm 22 [.ref 38, .int 1] (SH L, mi, ml, MR) d (fun v μ' => X 113 33 [.ref 2, .int x1, .ref r2] (v.toList ++ []) μ' (d + 1) Q)) := by
  refine (R_if_ne (off := 6) (t := 25) (by decide +kernel) (by decide +kernel)).trans (ite_congr rfl (fun c0 => ?_) (fun c0 => ?_))
  · refine (R_bipush (n := (-4)) (v := (-4)) (by decide +kernel) (by decide +kernel)).trans ?_
    exact R_ireturn (by decide +kernel) (by decide +kernel)
  · refine (R_pure0 (ins := .aload_n 0) (len := 1) (loc' := [.ref 2, .int x1, .ref r2]) (st' := [.ref 2]) (by decide +kernel) (fun _ => rfl)).trans ?_
    refine (R_gr (i := 34) (ci := 9) (k := 4) (n := 12) (b := 38) (by decide +kernel) (by decide +kernel) (by decide) rfl (SH_ref (by decide +kernel))).trans ?_
    refine (R_iconst (n := 1) (v := 1) (by decide +kernel) (by decide +kernel)).trans ?_
    refine (R_virt (i := 170) (f := 22) (kd := 0) (na := 1) (ml := 2) (ci := 2) (n := 5) (b := 38) (As := [.int 1]) (rest := []) (by decide +kernel) (by decide +kernel) (by decide) (by decide +kernel) rfl (by decide +kernel) rfl rfl (by decide +kernel) (Nat.le_of_ble_eq_true rfl)).trans ?_
    rfl
theorem s113_33 {L : Nat} {mi : Nat → Nat → Int32} {ml : Nat → Nat → Int64} {d : Nat} {Q : Option Value → xM → Prop} {x1 y : Int32} {r2 : Nat} (hS_r2 : (SH L)[r2]? = some (4, 7)) : X 113 33 [.ref 2, .int x1, .ref r2] [.int y] (SH L, mi, ml, MR) (d + 1) Q =
    if (y = 0) then (Xm 23 [.ref 38, .int 1, .int x1] (SH L, mi, ml, MR) d (fun v μ' => X 113 48 [.ref 2, .int x1, .ref r2] (v.toList ++ []) μ' (d + 1) Q)) else (Q (some (.int (-2))) (SH L, mi, ml, MR)) := by
  refine (R_if_eq (off := 6) (t := 39) (by decide +kernel) (by decide +kernel)).trans (ite_congr rfl (fun c0 => ?_) (fun c0 => ?_))
  · refine (R_pure0 (ins := .aload_n 0) (len := 1) (loc' := [.ref 2, .int x1, .ref r2]) (st' := [.ref 2]) (by decide +kernel) (fun _ => rfl)).trans ?_
    refine (R_gr (i := 34) (ci := 9) (k := 4) (n := 12) (b := 38) (by decide +kernel) (by decide +kernel) (by decide) rfl (SH_ref (by decide +kernel))).trans ?_
    refine (R_iconst (n := 1) (v := 1) (by decide +kernel) (by decide +kernel)).trans ?_
    refine (R_pure0 (ins := .iload_n 1) (len := 1) (loc' := [.ref 2, .int x1, .ref r2]) (st' := [.int x1, .int 1, .ref 38]) (by decide +kernel) (fun _ => rfl)).trans ?_
    refine (R_virt (i := 173) (f := 23) (kd := 0) (na := 2) (ml := 3) (ci := 2) (n := 5) (b := 38) (As := [.int 1, .int x1]) (rest := []) (by decide +kernel) (by decide +kernel) (by decide) (by decide +kernel) rfl (by decide +kernel) rfl rfl (by decide +kernel) (Nat.le_of_ble_eq_true rfl)).trans ?_
    rfl
  · refine (R_bipush (n := (-2)) (v := (-2)) (by decide +kernel) (by decide +kernel)).trans ?_
    exact R_ireturn (by decide +kernel) (by decide +kernel)
theorem s113_48 {L : Nat} {mi : Nat → Nat → Int32} {ml : Nat → Nat → Int64} {d : Nat} {Q : Option Value → xM → Prop} {x1 : Int32} {r2 : Nat} (hS_r2 : (SH L)[r2]? = some (4, 7)) : X 113 48 [.ref 2, .int x1, .ref r2] [] (SH L, mi, ml, MR) d Q =
    Q (some (.int (mi r2 4))) (SH L, mi, ml, MR) := by
  refine (R_pure0 (ins := .aload_n 2) (len := 1) (loc' := [.ref 2, .int x1, .ref r2]) (st' := [.ref r2]) (by decide +kernel) (fun _ => rfl)).trans ?_
  refine (R_gi (i := 179) (ci := 4) (k := 4) (n := 7) (by decide +kernel) (by decide +kernel) (by decide) hS_r2).trans ?_
  exact R_ireturn (by decide +kernel) (by decide +kernel)
theorem s114 {L : Nat} {mi : Nat → Nat → Int32} {ml : Nat → Nat → Int64} {d : Nat} {Q : Option Value → xM → Prop} {x1 : Int32} : Xm 114 [.ref 2, .int x1] (SH L, mi, ml, MR) (d + 1) Q =
    Xm 15 [.ref 38, .int x1] (SH L, mi, ml, MR) d (fun v μ' => X 114 8 [.ref 2, .int x1, xmk] (v.toList ++ []) μ' (d + 1) Q) := by
  rw [Xm_ent (n := 3) (loc := [.ref 2, .int x1, xmk]) (by decide +kernel) rfl]
  refine (R_pure0 (ins := .aload_n 0) (len := 1) (loc' := [.ref 2, .int x1, xmk]) (st' := [.ref 2]) (by decide +kernel) (fun _ => rfl)).trans ?_
  refine (R_gr (i := 34) (ci := 9) (k := 4) (n := 12) (b := 38) (by decide +kernel) (by decide +kernel) (by decide) rfl (SH_ref (by decide +kernel))).trans ?_
  refine (R_pure0 (ins := .iload_n 1) (len := 1) (loc' := [.ref 2, .int x1, xmk]) (st' := [.int x1, .ref 38]) (by decide +kernel) (fun _ => rfl)).trans ?_
  refine (R_virt (i := 136) (f := 15) (kd := 0) (na := 1) (ml := 2) (ci := 2) (n := 5) (b := 38) (As := [.int x1]) (rest := []) (by decide +kernel) (by decide +kernel) (by decide) (by decide +kernel) rfl (by decide +kernel) rfl rfl (by decide +kernel) (Nat.le_of_ble_eq_true rfl)).trans ?_
  rfl
theorem s114_8 {L : Nat} {mi : Nat → Nat → Int32} {ml : Nat → Nat → Int64} {d : Nat} {Q : Option Value → xM → Prop} {x1 : Int32} {ry : Nat} (hS_ry : (SH L)[ry]? = some (4, 7)) : X 114 8 [.ref 2, .int x1, xmk] [.ref ry] (SH L, mi, ml, MR) (d + 1) Q =
    Xm 18 [.ref 38] (SH L, mi, ml, MR) d (fun v μ' => X 114 23 [.ref 2, .int x1, .ref ry] (v.toList ++ [.ref ry]) μ' (d + 1) Q) := by
  refine (R_pure0 (ins := .astore_n 2) (len := 1) (loc' := [.ref 2, .int x1, .ref ry]) (st' := []) (by decide +kernel) (fun _ => rfl)).trans ?_
  refine (R_pure0 (ins := .aload_n 2) (len := 1) (loc' := [.ref 2, .int x1, .ref ry]) (st' := [.ref ry]) (by decide +kernel) (fun _ => rfl)).trans ?_
  refine (R_ifnonnull_r (off := 5) (t := 15) (by decide +kernel) (by decide +kernel)).trans ?_
  refine (R_pure0 (ins := .aload_n 2) (len := 1) (loc' := [.ref 2, .int x1, .ref ry]) (st' := [.ref ry]) (by decide +kernel) (fun _ => rfl)).trans ?_
  refine (R_pure0 (ins := .aload_n 0) (len := 1) (loc' := [.ref 2, .int x1, .ref ry]) (st' := [.ref 2, .ref ry]) (by decide +kernel) (fun _ => rfl)).trans ?_
  refine (R_gr (i := 34) (ci := 9) (k := 4) (n := 12) (b := 38) (by decide +kernel) (by decide +kernel) (by decide) rfl (SH_ref (by decide +kernel))).trans ?_
  refine (R_virt (i := 140) (f := 18) (kd := 0) (na := 0) (ml := 1) (ci := 2) (n := 5) (b := 38) (As := []) (rest := [.ref ry]) (by decide +kernel) (by decide +kernel) (by decide) (by decide +kernel) rfl (by decide +kernel) rfl rfl (by decide +kernel) (Nat.le_of_ble_eq_true rfl)).trans ?_
  rfl
theorem s114_8n {L : Nat} {mi : Nat → Nat → Int32} {ml : Nat → Nat → Int64} {d : Nat} {Q : Option Value → xM → Prop} {x1 : Int32} : X 114 8 [.ref 2, .int x1, xmk] [.null] (SH L, mi, ml, MR) d Q =
    Q (some (.int (-1))) (SH L, mi, ml, MR) := by
  refine (R_pure0 (ins := .astore_n 2) (len := 1) (loc' := [.ref 2, .int x1, .null]) (st' := []) (by decide +kernel) (fun _ => rfl)).trans ?_
  refine (R_pure0 (ins := .aload_n 2) (len := 1) (loc' := [.ref 2, .int x1, .null]) (st' := [.null]) (by decide +kernel) (fun _ => rfl)).trans ?_
  refine (R_ifnonnull_n (off := 5) (by decide +kernel)).trans ?_
  refine (R_iconst (n := (-1)) (v := (-1)) (by decide +kernel) (by decide +kernel)).trans ?_
  exact R_ireturn (by decide +kernel) (by decide +kernel)
theorem s114_23 {L : Nat} {mi : Nat → Nat → Int32} {ml : Nat → Nat → Int64} {d : Nat} {Q : Option Value → xM → Prop} {x1 y : Int32} {r2 : Nat} (hS_r2 : (SH L)[r2]? = some (4, 7)) : X 114 23 [.ref 2, .int x1, .ref r2] [.int y, .ref r2] (SH L, mi, ml, MR) (d + 1) Q =
    Xm 57 [.ref r2, .int y] (SH L, mi, ml, MR) d (fun v μ' => X 114 26 [.ref 2, .int x1, .ref r2] (v.toList ++ []) μ' (d + 1) Q) := by
  refine (R_virt (i := 182) (f := 57) (kd := 0) (na := 1) (ml := 2) (ci := 4) (n := 7) (b := r2) (As := [.int y]) (rest := []) (by decide +kernel) (by decide +kernel) (by decide) (by decide +kernel) rfl (by decide +kernel) hS_r2 rfl (by decide +kernel) (Nat.le_of_ble_eq_true rfl)).trans ?_
  rfl
theorem s114_26 {L : Nat} {mi : Nat → Nat → Int32} {ml : Nat → Nat → Int64} {d : Nat} {Q : Option Value → xM → Prop} {x1 y : Int32} {r2 : Nat} (hS_r2 : (SH L)[r2]? = some (4, 7)) : X 114 26 [.ref 2, .int x1, .ref r2] [.int y] (SH L, mi, ml, MR) (d + 1) Q =
    if (y = 0) then (Q (some (.int (-4))) (SH L, mi, ml, MR)) else (Xm 22 [.ref 38, .int 1] (SH L, mi, ml, MR) d (fun v μ' => X 114 40 [.ref 2, .int x1, .ref r2] (v.toList ++ []) μ' (d + 1) Q)) := by
  refine (R_if_ne (off := 6) (t := 32) (by decide +kernel) (by decide +kernel)).trans (ite_congr rfl (fun c0 => ?_) (fun c0 => ?_))
  · refine (R_bipush (n := (-4)) (v := (-4)) (by decide +kernel) (by decide +kernel)).trans ?_
    exact R_ireturn (by decide +kernel) (by decide +kernel)
  · refine (R_pure0 (ins := .aload_n 0) (len := 1) (loc' := [.ref 2, .int x1, .ref r2]) (st' := [.ref 2]) (by decide +kernel) (fun _ => rfl)).trans ?_
    refine (R_gr (i := 34) (ci := 9) (k := 4) (n := 12) (b := 38) (by decide +kernel) (by decide +kernel) (by decide) rfl (SH_ref (by decide +kernel))).trans ?_
    refine (R_iconst (n := 1) (v := 1) (by decide +kernel) (by decide +kernel)).trans ?_
    refine (R_virt (i := 170) (f := 22) (kd := 0) (na := 1) (ml := 2) (ci := 2) (n := 5) (b := 38) (As := [.int 1]) (rest := []) (by decide +kernel) (by decide +kernel) (by decide) (by decide +kernel) rfl (by decide +kernel) rfl rfl (by decide +kernel) (Nat.le_of_ble_eq_true rfl)).trans ?_
    rfl
theorem s114_40 {L : Nat} {mi : Nat → Nat → Int32} {ml : Nat → Nat → Int64} {d : Nat} {Q : Option Value → xM → Prop} {x1 y : Int32} {r2 : Nat} (hS_r2 : (SH L)[r2]? = some (4, 7)) : X 114 40 [.ref 2, .int x1, .ref r2] [.int y] (SH L, mi, ml, MR) (d + 1) Q =
    if (y = 0) then (Xm 23 [.ref 38, .int 2, .int x1] (SH L, mi, ml, MR) d (fun v μ' => X 114 55 [.ref 2, .int x1, .ref r2] (v.toList ++ []) μ' (d + 1) Q)) else (Q (some (.int (-2))) (SH L, mi, ml, MR)) := by
  refine (R_if_eq (off := 6) (t := 46) (by decide +kernel) (by decide +kernel)).trans (ite_congr rfl (fun c0 => ?_) (fun c0 => ?_))
  · refine (R_pure0 (ins := .aload_n 0) (len := 1) (loc' := [.ref 2, .int x1, .ref r2]) (st' := [.ref 2]) (by decide +kernel) (fun _ => rfl)).trans ?_
    refine (R_gr (i := 34) (ci := 9) (k := 4) (n := 12) (b := 38) (by decide +kernel) (by decide +kernel) (by decide) rfl (SH_ref (by decide +kernel))).trans ?_
    refine (R_iconst (n := 2) (v := 2) (by decide +kernel) (by decide +kernel)).trans ?_
    refine (R_pure0 (ins := .iload_n 1) (len := 1) (loc' := [.ref 2, .int x1, .ref r2]) (st' := [.int x1, .int 2, .ref 38]) (by decide +kernel) (fun _ => rfl)).trans ?_
    refine (R_virt (i := 173) (f := 23) (kd := 0) (na := 2) (ml := 3) (ci := 2) (n := 5) (b := 38) (As := [.int 2, .int x1]) (rest := []) (by decide +kernel) (by decide +kernel) (by decide) (by decide +kernel) rfl (by decide +kernel) rfl rfl (by decide +kernel) (Nat.le_of_ble_eq_true rfl)).trans ?_
    rfl
  · refine (R_bipush (n := (-2)) (v := (-2)) (by decide +kernel) (by decide +kernel)).trans ?_
    exact R_ireturn (by decide +kernel) (by decide +kernel)
theorem s114_55 {L : Nat} {mi : Nat → Nat → Int32} {ml : Nat → Nat → Int64} {d : Nat} {Q : Option Value → xM → Prop} {x1 : Int32} {r2 : Nat} (hS_r2 : (SH L)[r2]? = some (4, 7)) : X 114 55 [.ref 2, .int x1, .ref r2] [] (SH L, mi, ml, MR) (d + 1) Q =
    Xm 19 [.ref 38] (SH L, mi, ml, MR) d (fun v μ' => X 114 62 [.ref 2, .int x1, .ref r2] (v.toList ++ []) μ' (d + 1) Q) := by
  refine (R_pure0 (ins := .aload_n 0) (len := 1) (loc' := [.ref 2, .int x1, .ref r2]) (st' := [.ref 2]) (by decide +kernel) (fun _ => rfl)).trans ?_
  refine (R_gr (i := 34) (ci := 9) (k := 4) (n := 12) (b := 38) (by decide +kernel) (by decide +kernel) (by decide) rfl (SH_ref (by decide +kernel))).trans ?_
  refine (R_virt (i := 185) (f := 19) (kd := 0) (na := 0) (ml := 1) (ci := 2) (n := 5) (b := 38) (As := []) (rest := []) (by decide +kernel) (by decide +kernel) (by decide) (by decide +kernel) rfl (by decide +kernel) rfl rfl (by decide +kernel) (Nat.le_of_ble_eq_true rfl)).trans ?_
  rfl
theorem s114_62 {L : Nat} {mi : Nat → Nat → Int32} {ml : Nat → Nat → Int64} {d : Nat} {Q : Option Value → xM → Prop} {x1 y : Int32} {r2 : Nat} (hS_r2 : (SH L)[r2]? = some (4, 7)) : X 114 62 [.ref 2, .int x1, .ref r2] [.int y] (SH L, mi, ml, MR) d Q =
    Q (some (.int y)) (SH L, mi, ml, MR) := by
  exact R_ireturn (by decide +kernel) (by decide +kernel)
theorem s115 {L : Nat} {mi : Nat → Nat → Int32} {ml : Nat → Nat → Int64} {d : Nat} {Q : Option Value → xM → Prop} {x1 : Int32} : Xm 115 [.ref 2, .int x1] (SH L, mi, ml, MR) (d + 1) Q =
    Xm 15 [.ref 38, .int x1] (SH L, mi, ml, MR) d (fun v μ' => X 115 8 [.ref 2, .int x1, xmk] (v.toList ++ []) μ' (d + 1) Q) := by
  rw [Xm_ent (n := 3) (loc := [.ref 2, .int x1, xmk]) (by decide +kernel) rfl]
  refine (R_pure0 (ins := .aload_n 0) (len := 1) (loc' := [.ref 2, .int x1, xmk]) (st' := [.ref 2]) (by decide +kernel) (fun _ => rfl)).trans ?_
  refine (R_gr (i := 34) (ci := 9) (k := 4) (n := 12) (b := 38) (by decide +kernel) (by decide +kernel) (by decide) rfl (SH_ref (by decide +kernel))).trans ?_
  refine (R_pure0 (ins := .iload_n 1) (len := 1) (loc' := [.ref 2, .int x1, xmk]) (st' := [.int x1, .ref 38]) (by decide +kernel) (fun _ => rfl)).trans ?_
  refine (R_virt (i := 136) (f := 15) (kd := 0) (na := 1) (ml := 2) (ci := 2) (n := 5) (b := 38) (As := [.int x1]) (rest := []) (by decide +kernel) (by decide +kernel) (by decide) (by decide +kernel) rfl (by decide +kernel) rfl rfl (by decide +kernel) (Nat.le_of_ble_eq_true rfl)).trans ?_
  rfl
theorem s115_8 {L : Nat} {mi : Nat → Nat → Int32} {ml : Nat → Nat → Int64} {d : Nat} {Q : Option Value → xM → Prop} {x1 : Int32} {ry : Nat} (hS_ry : (SH L)[ry]? = some (4, 7)) : X 115 8 [.ref 2, .int x1, xmk] [.ref ry] (SH L, mi, ml, MR) (d + 1) Q =
    if ((mi ry 6) = 0) then (Xm 22 [.ref 38, .int 1] (SH L, mi, ml, MR) d (fun v μ' => X 115 33 [.ref 2, .int x1, .ref ry] (v.toList ++ []) μ' (d + 1) Q)) else (Q (some (.int (-4))) (SH L, mi, ml, MR)) := by
  refine (R_pure0 (ins := .astore_n 2) (len := 1) (loc' := [.ref 2, .int x1, .ref ry]) (st' := []) (by decide +kernel) (fun _ => rfl)).trans ?_
  refine (R_pure0 (ins := .aload_n 2) (len := 1) (loc' := [.ref 2, .int x1, .ref ry]) (st' := [.ref ry]) (by decide +kernel) (fun _ => rfl)).trans ?_
  refine (R_ifnonnull_r (off := 5) (t := 15) (by decide +kernel) (by decide +kernel)).trans ?_
  refine (R_pure0 (ins := .aload_n 2) (len := 1) (loc' := [.ref 2, .int x1, .ref ry]) (st' := [.ref ry]) (by decide +kernel) (fun _ => rfl)).trans ?_
  refine (R_gi (i := 188) (ci := 4) (k := 6) (n := 7) (by decide +kernel) (by decide +kernel) (by decide) hS_ry).trans ?_
  refine (R_if_eq (off := 6) (t := 25) (by decide +kernel) (by decide +kernel)).trans (ite_congr rfl (fun c0 => ?_) (fun c0 => ?_))
  · refine (R_pure0 (ins := .aload_n 0) (len := 1) (loc' := [.ref 2, .int x1, .ref ry]) (st' := [.ref 2]) (by decide +kernel) (fun _ => rfl)).trans ?_
    refine (R_gr (i := 34) (ci := 9) (k := 4) (n := 12) (b := 38) (by decide +kernel) (by decide +kernel) (by decide) rfl (SH_ref (by decide +kernel))).trans ?_
    refine (R_iconst (n := 1) (v := 1) (by decide +kernel) (by decide +kernel)).trans ?_
    refine (R_virt (i := 170) (f := 22) (kd := 0) (na := 1) (ml := 2) (ci := 2) (n := 5) (b := 38) (As := [.int 1]) (rest := []) (by decide +kernel) (by decide +kernel) (by decide) (by decide +kernel) rfl (by decide +kernel) rfl rfl (by decide +kernel) (Nat.le_of_ble_eq_true rfl)).trans ?_
    rfl
  · refine (R_bipush (n := (-4)) (v := (-4)) (by decide +kernel) (by decide +kernel)).trans ?_
    exact R_ireturn (by decide +kernel) (by decide +kernel)
theorem s115_8n {L : Nat} {mi : Nat → Nat → Int32} {ml : Nat → Nat → Int64} {d : Nat} {Q : Option Value → xM → Prop} {x1 : Int32} : X 115 8 [.ref 2, .int x1, xmk] [.null] (SH L, mi, ml, MR) d Q =
    Q (some (.int (-1))) (SH L, mi, ml, MR) := by
  refine (R_pure0 (ins := .astore_n 2) (len := 1) (loc' := [.ref 2, .int x1, .null]) (st' := []) (by decide +kernel) (fun _ => rfl)).trans ?_
  refine (R_pure0 (ins := .aload_n 2) (len := 1) (loc' := [.ref 2, .int x1, .null]) (st' := [.null]) (by decide +kernel) (fun _ => rfl)).trans ?_
  refine (R_ifnonnull_n (off := 5) (by decide +kernel)).trans ?_
  refine (R_iconst (n := (-1)) (v := (-1)) (by decide +kernel) (by decide +kernel)).trans ?_
  exact R_ireturn (by decide +kernel) (by decide +kernel)
theorem s115_33 {L : Nat} {mi : Nat → Nat → Int32} {ml : Nat → Nat → Int64} {d : Nat} {Q : Option Value → xM → Prop} {x1 y : Int32} {r2 : Nat} (hS_r2 : (SH L)[r2]? = some (4, 7)) : X 115 33 [.ref 2, .int x1, .ref r2] [.int y] (SH L, mi, ml, MR) (d + 1) Q =
    if (y = 0) then (Xm 23 [.ref 38, .int 3, .int x1] (SH L, mi, ml, MR) d (fun v μ' => X 115 48 [.ref 2, .int x1, .ref r2] (v.toList ++ []) μ' (d + 1) Q)) else (Q (some (.int (-2))) (SH L, mi, ml, MR)) := by
  refine (R_if_eq (off := 6) (t := 39) (by decide +kernel) (by decide +kernel)).trans (ite_congr rfl (fun c0 => ?_) (fun c0 => ?_))
  · refine (R_pure0 (ins := .aload_n 0) (len := 1) (loc' := [.ref 2, .int x1, .ref r2]) (st' := [.ref 2]) (by decide +kernel) (fun _ => rfl)).trans ?_
    refine (R_gr (i := 34) (ci := 9) (k := 4) (n := 12) (b := 38) (by decide +kernel) (by decide +kernel) (by decide) rfl (SH_ref (by decide +kernel))).trans ?_
    refine (R_iconst (n := 3) (v := 3) (by decide +kernel) (by decide +kernel)).trans ?_
    refine (R_pure0 (ins := .iload_n 1) (len := 1) (loc' := [.ref 2, .int x1, .ref r2]) (st' := [.int x1, .int 3, .ref 38]) (by decide +kernel) (fun _ => rfl)).trans ?_
    refine (R_virt (i := 173) (f := 23) (kd := 0) (na := 2) (ml := 3) (ci := 2) (n := 5) (b := 38) (As := [.int 3, .int x1]) (rest := []) (by decide +kernel) (by decide +kernel) (by decide) (by decide +kernel) rfl (by decide +kernel) rfl rfl (by decide +kernel) (Nat.le_of_ble_eq_true rfl)).trans ?_
    rfl
  · refine (R_bipush (n := (-2)) (v := (-2)) (by decide +kernel) (by decide +kernel)).trans ?_
    exact R_ireturn (by decide +kernel) (by decide +kernel)
theorem s115_48 {L : Nat} {mi : Nat → Nat → Int32} {ml : Nat → Nat → Int64} {d : Nat} {Q : Option Value → xM → Prop} {x1 : Int32} {r2 : Nat} (hS_r2 : (SH L)[r2]? = some (4, 7)) : X 115 48 [.ref 2, .int x1, .ref r2] [] (SH L, mi, ml, MR) (d + 1) Q =
    Xm 30 [.ref 38] (SH L, mi, ml, MR) d (fun v μ' => X 115 55 [.ref 2, .int x1, .ref r2] (v.toList ++ []) μ' (d + 1) Q) := by
  refine (R_pure0 (ins := .aload_n 0) (len := 1) (loc' := [.ref 2, .int x1, .ref r2]) (st' := [.ref 2]) (by decide +kernel) (fun _ => rfl)).trans ?_
  refine (R_gr (i := 34) (ci := 9) (k := 4) (n := 12) (b := 38) (by decide +kernel) (by decide +kernel) (by decide) rfl (SH_ref (by decide +kernel))).trans ?_
  refine (R_virt (i := 192) (f := 30) (kd := 0) (na := 0) (ml := 4) (ci := 2) (n := 5) (b := 38) (As := []) (rest := []) (by decide +kernel) (by decide +kernel) (by decide) (by decide +kernel) rfl (by decide +kernel) rfl rfl (by decide +kernel) (Nat.le_of_ble_eq_true rfl)).trans ?_
  rfl
theorem s115_55 {L : Nat} {mi : Nat → Nat → Int32} {ml : Nat → Nat → Int64} {d : Nat} {Q : Option Value → xM → Prop} {x1 y : Int32} {r2 : Nat} (hS_r2 : (SH L)[r2]? = some (4, 7)) : X 115 55 [.ref 2, .int x1, .ref r2] [.int y] (SH L, mi, ml, MR) (d + 1) Q =
    Xm 238 [.int y] (SH L, mi, ml, MR) d (fun v μ' => X 115 58 [.ref 2, .int x1, .ref r2] (v.toList ++ []) μ' (d + 1) Q) := by
  refine (R_static (i := 195) (f := 238) (kd := 2) (na := 1) (ml := 1) (As := [.int y]) (rest := []) (by decide +kernel) (by decide +kernel) (by decide) (by decide +kernel) rfl rfl (by decide +kernel) (Nat.le_of_ble_eq_true rfl)).trans ?_
  rfl
theorem s115_58 {L : Nat} {mi : Nat → Nat → Int32} {ml : Nat → Nat → Int64} {d : Nat} {Q : Option Value → xM → Prop} {x1 y : Int32} {r2 : Nat} (hS_r2 : (SH L)[r2]? = some (4, 7)) : X 115 58 [.ref 2, .int x1, .ref r2] [.int y] (SH L, mi, ml, MR) d Q =
    Q (some (.int y)) (SH L, mi, ml, MR) := by
  exact R_ireturn (by decide +kernel) (by decide +kernel)
theorem s116 {L : Nat} {mi : Nat → Nat → Int32} {ml : Nat → Nat → Int64} {d : Nat} {Q : Option Value → xM → Prop} {x1 : Int32} : Xm 116 [.ref 2, .int x1] (SH L, mi, ml, MR) (d + 1) Q =
    Xm 20 [.ref 38] (SH L, mi, ml, MR) d (fun v μ' => X 116 7 [.ref 2, .int x1, xmk] (v.toList ++ []) μ' (d + 1) Q) := by
  rw [Xm_ent (n := 3) (loc := [.ref 2, .int x1, xmk]) (by decide +kernel) rfl]
  refine (R_pure0 (ins := .aload_n 0) (len := 1) (loc' := [.ref 2, .int x1, xmk]) (st' := [.ref 2]) (by decide +kernel) (fun _ => rfl)).trans ?_
  refine (R_gr (i := 34) (ci := 9) (k := 4) (n := 12) (b := 38) (by decide +kernel) (by decide +kernel) (by decide) rfl (SH_ref (by decide +kernel))).trans ?_
  refine (R_virt (i := 200) (f := 20) (kd := 0) (na := 0) (ml := 1) (ci := 2) (n := 5) (b := 38) (As := []) (rest := []) (by decide +kernel) (by decide +kernel) (by decide) (by decide +kernel) rfl (by decide +kernel) rfl rfl (by decide +kernel) (Nat.le_of_ble_eq_true rfl)).trans ?_
  rfl
theorem s116_7 {L : Nat} {mi : Nat → Nat → Int32} {ml : Nat → Nat → Int64} {d : Nat} {Q : Option Value → xM → Prop} {x1 : Int32} {ry : Nat} {n_ry : Nat} (hS_ry : isStrip L ry n_ry) : X 116 7 [.ref 2, .int x1, xmk] [.ref ry] (SH L, mi, ml, MR) (d + 1) Q =
    Xm 88 [.ref ry] (SH L, mi, ml, MR) d (fun v μ' => X 116 10 [.ref 2, .int x1, xmk] (v.toList ++ []) μ' (d + 1) Q) := by
  refine (R_virt (i := 120) (f := 88) (kd := 0) (na := 0) (ml := 1) (ci := 8) (n := 2) (b := ry) (As := []) (rest := []) (by decide +kernel) (by decide +kernel) (by decide) (by decide +kernel) rfl (by decide +kernel) hS_ry.1 rfl (by decide +kernel) (Nat.le_of_ble_eq_true rfl)).trans ?_
  rfl
-- not made: s116_7n: call on ('N', '')
theorem s116_10 {L : Nat} {mi : Nat → Nat → Int32} {ml : Nat → Nat → Int64} {d : Nat} {Q : Option Value → xM → Prop} {x1 y : Int32} : X 116 10 [.ref 2, .int x1, xmk] [.int y] (SH L, mi, ml, MR) (d + 1) Q =
    if (x1 < 0) then (Q (some (.int (-1))) (SH L, mi, ml, MR)) else (if (y < x1) then (Q (some (.int (-1))) (SH L, mi, ml, MR)) else (Xm 25 [.ref 38, .int x1] (SH L, mi, ml, MR) d (fun v μ' => X 116 30 [.ref 2, .int x1, .int y] (v.toList ++ []) μ' (d + 1) Q))) := by
  refine (R_pure0 (ins := .istore_n 2) (len := 1) (loc' := [.ref 2, .int x1, .int y]) (st' := []) (by decide +kernel) (fun _ => rfl)).trans ?_
  refine (R_pure0 (ins := .iload_n 1) (len := 1) (loc' := [.ref 2, .int x1, .int y]) (st' := [.int x1]) (by decide +kernel) (fun _ => rfl)).trans ?_
  refine (R_if_lt (off := 8) (t := 20) (by decide +kernel) (by decide +kernel)).trans (ite_congr rfl (fun c0 => ?_) (fun c0 => ?_))
  · refine (R_iconst (n := (-1)) (v := (-1)) (by decide +kernel) (by decide +kernel)).trans ?_
    exact R_ireturn (by decide +kernel) (by decide +kernel)
  · refine (R_pure0 (ins := .iload_n 1) (len := 1) (loc' := [.ref 2, .int x1, .int y]) (st' := [.int x1]) (by decide +kernel) (fun _ => rfl)).trans ?_
    refine (R_pure0 (ins := .iload_n 2) (len := 1) (loc' := [.ref 2, .int x1, .int y]) (st' := [.int y, .int x1]) (by decide +kernel) (fun _ => rfl)).trans ?_
    refine (R_icmp_le (off := 5) (t := 22) (by decide +kernel) (by decide +kernel)).trans (ite_congr rfl (fun c1 => ?_) (fun c1 => ?_))
    · refine (R_iconst (n := (-1)) (v := (-1)) (by decide +kernel) (by decide +kernel)).trans ?_
      exact R_ireturn (by decide +kernel) (by decide +kernel)
    · refine (R_pure0 (ins := .aload_n 0) (len := 1) (loc' := [.ref 2, .int x1, .int y]) (st' := [.ref 2]) (by decide +kernel) (fun _ => rfl)).trans ?_
      refine (R_gr (i := 34) (ci := 9) (k := 4) (n := 12) (b := 38) (by decide +kernel) (by decide +kernel) (by decide) rfl (SH_ref (by decide +kernel))).trans ?_
      refine (R_pure0 (ins := .iload_n 1) (len := 1) (loc' := [.ref 2, .int x1, .int y]) (st' := [.int x1, .ref 38]) (by decide +kernel) (fun _ => rfl)).trans ?_
      refine (R_virt (i := 204) (f := 25) (kd := 0) (na := 1) (ml := 2) (ci := 2) (n := 5) (b := 38) (As := [.int x1]) (rest := []) (by decide +kernel) (by decide +kernel) (by decide) (by decide +kernel) rfl (by decide +kernel) rfl rfl (by decide +kernel) (Nat.le_of_ble_eq_true rfl)).trans ?_
      rfl
theorem s116_30 {L : Nat} {mi : Nat → Nat → Int32} {ml : Nat → Nat → Int64} {d : Nat} {Q : Option Value → xM → Prop} {x1 x2 : Int32} : X 116 30 [.ref 2, .int x1, .int x2] [] (SH L, mi, ml, MR) d Q =
    Q (some (.int (x2 - x1))) (SH L, mi, ml, MR) := by
  refine (R_pure0 (ins := .iload_n 2) (len := 1) (loc' := [.ref 2, .int x1, .int x2]) (st' := [.int x2]) (by decide +kernel) (fun _ => rfl)).trans ?_
  refine (R_pure0 (ins := .iload_n 1) (len := 1) (loc' := [.ref 2, .int x1, .int x2]) (st' := [.int x1, .int x2]) (by decide +kernel) (fun _ => rfl)).trans ?_
  refine (R_pure0 (ins := .isub) (len := 1) (loc' := [.ref 2, .int x1, .int x2]) (st' := [.int (x2 - x1)]) (by decide +kernel) (fun _ => rfl)).trans ?_
  exact R_ireturn (by decide +kernel) (by decide +kernel)
theorem s117 {L : Nat} {mi : Nat → Nat → Int32} {ml : Nat → Nat → Int64} {d : Nat} {Q : Option Value → xM → Prop} {x1 : Int32} : Xm 117 [.ref 2, .int x1] (SH L, mi, ml, MR) (d + 1) Q =
    Xm 82 [.ref 27, .int x1] (SH L, mi, ml, MR) d (fun v μ' => X 117 8 [.ref 2, .int x1, xmk] (v.toList ++ []) μ' (d + 1) Q) := by
  rw [Xm_ent (n := 3) (loc := [.ref 2, .int x1, xmk]) (by decide +kernel) rfl]
  refine (R_pure0 (ins := .aload_n 0) (len := 1) (loc' := [.ref 2, .int x1, xmk]) (st' := [.ref 2]) (by decide +kernel) (fun _ => rfl)).trans ?_
  refine (R_gr (i := 21) (ci := 9) (k := 2) (n := 12) (b := 27) (by decide +kernel) (by decide +kernel) (by decide) rfl (SH_ref (by decide +kernel))).trans ?_
  refine (R_pure0 (ins := .iload_n 1) (len := 1) (loc' := [.ref 2, .int x1, xmk]) (st' := [.int x1, .ref 27]) (by decide +kernel) (fun _ => rfl)).trans ?_
  refine (R_virt (i := 81) (f := 82) (kd := 0) (na := 1) (ml := 2) (ci := 7) (n := 1) (b := 27) (As := [.int x1]) (rest := []) (by decide +kernel) (by decide +kernel) (by decide) (by decide +kernel) rfl (by decide +kernel) rfl rfl (by decide +kernel) (Nat.le_of_ble_eq_true rfl)).trans ?_
  rfl
theorem s117_8 {L : Nat} {mi : Nat → Nat → Int32} {ml : Nat → Nat → Int64} {d : Nat} {Q : Option Value → xM → Prop} {x1 : Int32} {ry : Nat} {n_ry : Nat} (hS_ry : isStrip L ry n_ry) : X 117 8 [.ref 2, .int x1, xmk] [.ref ry] (SH L, mi, ml, MR) (d + 1) Q =
    Xm 17 [.ref 38] (SH L, mi, ml, MR) d (fun v μ' => X 117 22 [.ref 2, .int x1, .ref ry] (v.toList ++ []) μ' (d + 1) Q) := by
  refine (R_pure0 (ins := .astore_n 2) (len := 1) (loc' := [.ref 2, .int x1, .ref ry]) (st' := []) (by decide +kernel) (fun _ => rfl)).trans ?_
  refine (R_pure0 (ins := .aload_n 2) (len := 1) (loc' := [.ref 2, .int x1, .ref ry]) (st' := [.ref ry]) (by decide +kernel) (fun _ => rfl)).trans ?_
  refine (R_ifnonnull_r (off := 5) (t := 15) (by decide +kernel) (by decide +kernel)).trans ?_
  refine (R_pure0 (ins := .aload_n 0) (len := 1) (loc' := [.ref 2, .int x1, .ref ry]) (st' := [.ref 2]) (by decide +kernel) (fun _ => rfl)).trans ?_
  refine (R_gr (i := 34) (ci := 9) (k := 4) (n := 12) (b := 38) (by decide +kernel) (by decide +kernel) (by decide) rfl (SH_ref (by decide +kernel))).trans ?_
  refine (R_virt (i := 167) (f := 17) (kd := 0) (na := 0) (ml := 1) (ci := 2) (n := 5) (b := 38) (As := []) (rest := []) (by decide +kernel) (by decide +kernel) (by decide) (by decide +kernel) rfl (by decide +kernel) rfl rfl (by decide +kernel) (Nat.le_of_ble_eq_true rfl)).trans ?_
  rfl
theorem s117_8n {L : Nat} {mi : Nat → Nat → Int32} {ml : Nat → Nat → Int64} {d : Nat} {Q : Option Value → xM → Prop} {x1 : Int32} : X 117 8 [.ref 2, .int x1, xmk] [.null] (SH L, mi, ml, MR) d Q =
    Q (some (.int (-1))) (SH L, mi, ml, MR) := by
  refine (R_pure0 (ins := .astore_n 2) (len := 1) (loc' := [.ref 2, .int x1, .null]) (st' := []) (by decide +kernel) (fun _ => rfl)).trans ?_
  refine (R_pure0 (ins := .aload_n 2) (len := 1) (loc' := [.ref 2, .int x1, .null]) (st' := [.null]) (by decide +kernel) (fun _ => rfl)).trans ?_
  refine (R_ifnonnull_n (off := 5) (by decide +kernel)).trans ?_
  refine (R_iconst (n := (-1)) (v := (-1)) (by decide +kernel) (by decide +kernel)).trans ?_
  exact R_ireturn (by decide +kernel) (by decide +kernel)
theorem s117_22 {L : Nat} {mi : Nat → Nat → Int32} {ml : Nat → Nat → Int64} {d : Nat} {Q : Option Value → xM → Prop} {x1 y : Int32} {r2 : Nat} {n_r2 : Nat} (hS_r2 : isStrip L r2 n_r2) : X 117 22 [.ref 2, .int x1, .ref r2] [.int y] (SH L, mi, ml, MR) (d + 1) Q =
    if (y = 0) then (Xm 20 [.ref 38] (SH L, mi, ml, MR) d (fun v μ' => X 117 36 [.ref 2, .int x1, .ref r2] (v.toList ++ [.ref r2]) μ' (d + 1) Q)) else (Q (some (.int (-4))) (SH L, mi, ml, MR)) := by
  refine (R_if_eq (off := 6) (t := 28) (by decide +kernel) (by decide +kernel)).trans (ite_congr rfl (fun c0 => ?_) (fun c0 => ?_))
  · refine (R_pure0 (ins := .aload_n 2) (len := 1) (loc' := [.ref 2, .int x1, .ref r2]) (st' := [.ref r2]) (by decide +kernel) (fun _ => rfl)).trans ?_
    refine (R_pure0 (ins := .aload_n 0) (len := 1) (loc' := [.ref 2, .int x1, .ref r2]) (st' := [.ref 2, .ref r2]) (by decide +kernel) (fun _ => rfl)).trans ?_
    refine (R_gr (i := 34) (ci := 9) (k := 4) (n := 12) (b := 38) (by decide +kernel) (by decide +kernel) (by decide) rfl (SH_ref (by decide +kernel))).trans ?_
    refine (R_virt (i := 200) (f := 20) (kd := 0) (na := 0) (ml := 1) (ci := 2) (n := 5) (b := 38) (As := []) (rest := [.ref r2]) (by decide +kernel) (by decide +kernel) (by decide) (by decide +kernel) rfl (by decide +kernel) rfl rfl (by decide +kernel) (Nat.le_of_ble_eq_true rfl)).trans ?_
    rfl
  · refine (R_bipush (n := (-4)) (v := (-4)) (by decide +kernel) (by decide +kernel)).trans ?_
    exact R_ireturn (by decide +kernel) (by decide +kernel)
theorem s117_36 {L : Nat} {mi : Nat → Nat → Int32} {ml : Nat → Nat → Int64} {d : Nat} {Q : Option Value → xM → Prop} {x1 : Int32} {r2 ry : Nat} {n_r2 : Nat} {n_ry : Nat} (hS_r2 : isStrip L r2 n_r2) (hS_ry : isStrip L ry n_ry) : X 117 36 [.ref 2, .int x1, .ref r2] [.ref ry, .ref r2] (SH L, mi, ml, MR) (d + 1) Q =
    Xm 97 [.ref r2, .ref ry] (SH L, mi, ml, MR) d (fun v μ' => X 117 39 [.ref 2, .int x1, .ref r2] (v.toList ++ []) μ' (d + 1) Q) := by
  refine (R_virt (i := 208) (f := 97) (kd := 0) (na := 1) (ml := 2) (ci := 8) (n := 2) (b := r2) (As := [.ref ry]) (rest := []) (by decide +kernel) (by decide +kernel) (by decide) (by decide +kernel) rfl (by decide +kernel) hS_r2.1 rfl (by decide +kernel) (Nat.le_of_ble_eq_true rfl)).trans ?_
  rfl
theorem s117_36n {L : Nat} {mi : Nat → Nat → Int32} {ml : Nat → Nat → Int64} {d : Nat} {Q : Option Value → xM → Prop} {x1 : Int32} {r2 : Nat} {n_r2 : Nat} (hS_r2 : isStrip L r2 n_r2) : X 117 36 [.ref 2, .int x1, .ref r2] [.null, .ref r2] (SH L, mi, ml, MR) (d + 1) Q =
    Xm 97 [.ref r2, .null] (SH L, mi, ml, MR) d (fun v μ' => X 117 39 [.ref 2, .int x1, .ref r2] (v.toList ++ []) μ' (d + 1) Q) := by
  refine (R_virt (i := 208) (f := 97) (kd := 0) (na := 1) (ml := 2) (ci := 8) (n := 2) (b := r2) (As := [.null]) (rest := []) (by decide +kernel) (by decide +kernel) (by decide) (by decide +kernel) rfl (by decide +kernel) hS_r2.1 rfl (by decide +kernel) (Nat.le_of_ble_eq_true rfl)).trans ?_
  rfl
theorem s117_39 {L : Nat} {mi : Nat → Nat → Int32} {ml : Nat → Nat → Int64} {d : Nat} {Q : Option Value → xM → Prop} {x1 : Int32} {r2 : Nat} {n_r2 : Nat} (hS_r2 : isStrip L r2 n_r2) : X 117 39 [.ref 2, .int x1, .ref r2] [] (SH L, mi, ml, MR) (d + 1) Q =
    Xm 88 [.ref r2] (SH L, mi, ml, MR) d (fun v μ' => X 117 43 [.ref 2, .int x1, .ref r2] (v.toList ++ []) μ' (d + 1) Q) := by
  refine (R_pure0 (ins := .aload_n 2) (len := 1) (loc' := [.ref 2, .int x1, .ref r2]) (st' := [.ref r2]) (by decide +kernel) (fun _ => rfl)).trans ?_
  refine (R_virt (i := 120) (f := 88) (kd := 0) (na := 0) (ml := 1) (ci := 8) (n := 2) (b := r2) (As := []) (rest := []) (by decide +kernel) (by decide +kernel) (by decide) (by decide +kernel) rfl (by decide +kernel) hS_r2.1 rfl (by decide +kernel) (Nat.le_of_ble_eq_true rfl)).trans ?_
  rfl
theorem s117_43 {L : Nat} {mi : Nat → Nat → Int32} {ml : Nat → Nat → Int64} {d : Nat} {Q : Option Value → xM → Prop} {x1 y : Int32} {r2 : Nat} {n_r2 : Nat} (hS_r2 : isStrip L r2 n_r2) : X 117 43 [.ref 2, .int x1, .ref r2] [.int y] (SH L, mi, ml, MR) d Q =
    Q (some (.int y)) (SH L, mi, ml, MR) := by
  exact R_ireturn (by decide +kernel) (by decide +kernel)
theorem s118 {L : Nat} {mi : Nat → Nat → Int32} {ml : Nat → Nat → Int64} {d : Nat} {Q : Option Value → xM → Prop} {x1 : Int32} : Xm 118 [.ref 2, .int x1] (SH L, mi, ml, MR) (d + 1) Q =
    Xm 82 [.ref 27, .int x1] (SH L, mi, ml, MR) d (fun v μ' => X 118 8 [.ref 2, .int x1, xmk] (v.toList ++ []) μ' (d + 1) Q) := by
  rw [Xm_ent (n := 3) (loc := [.ref 2, .int x1, xmk]) (by decide +kernel) rfl]
  refine (R_pure0 (ins := .aload_n 0) (len := 1) (loc' := [.ref 2, .int x1, xmk]) (st' := [.ref 2]) (by decide +kernel) (fun _ => rfl)).trans ?_
  refine (R_gr (i := 21) (ci := 9) (k := 2) (n := 12) (b := 27) (by decide +kernel) (by decide +kernel) (by decide) rfl (SH_ref (by decide +kernel))).trans ?_
  refine (R_pure0 (ins := .iload_n 1) (len := 1) (loc' := [.ref 2, .int x1, xmk]) (st' := [.int x1, .ref 27]) (by decide +kernel) (fun _ => rfl)).trans ?_
  refine (R_virt (i := 81) (f := 82) (kd := 0) (na := 1) (ml := 2) (ci := 7) (n := 1) (b := 27) (As := [.int x1]) (rest := []) (by decide +kernel) (by decide +kernel) (by decide) (by decide +kernel) rfl (by decide +kernel) rfl rfl (by decide +kernel) (Nat.le_of_ble_eq_true rfl)).trans ?_
  rfl
theorem s118_8 {L : Nat} {mi : Nat → Nat → Int32} {ml : Nat → Nat → Int64} {d : Nat} {Q : Option Value → xM → Prop} {x1 : Int32} {ry : Nat} {n_ry : Nat} (hS_ry : isStrip L ry n_ry) : X 118 8 [.ref 2, .int x1, xmk] [.ref ry] (SH L, mi, ml, MR) (d + 1) Q =
    Xm 87 [.ref ry] (SH L, mi, ml, MR) d (fun v μ' => X 118 19 [.ref 2, .int x1, .ref ry] (v.toList ++ []) μ' (d + 1) Q) := by
  refine (R_pure0 (ins := .astore_n 2) (len := 1) (loc' := [.ref 2, .int x1, .ref ry]) (st' := []) (by decide +kernel) (fun _ => rfl)).trans ?_
  refine (R_pure0 (ins := .aload_n 2) (len := 1) (loc' := [.ref 2, .int x1, .ref ry]) (st' := [.ref ry]) (by decide +kernel) (fun _ => rfl)).trans ?_
  refine (R_ifnonnull_r (off := 5) (t := 15) (by decide +kernel) (by decide +kernel)).trans ?_
  refine (R_pure0 (ins := .aload_n 2) (len := 1) (loc' := [.ref 2, .int x1, .ref ry]) (st' := [.ref ry]) (by decide +kernel) (fun _ => rfl)).trans ?_
  refine (R_virt (i := 102) (f := 87) (kd := 0) (na := 0) (ml := 1) (ci := 8) (n := 2) (b := ry) (As := []) (rest := []) (by decide +kernel) (by decide +kernel) (by decide) (by decide +kernel) rfl (by decide +kernel) hS_ry.1 rfl (by decide +kernel) (Nat.le_of_ble_eq_true rfl)).trans ?_
  rfl
theorem s118_8n {L : Nat} {mi : Nat → Nat → Int32} {ml : Nat → Nat → Int64} {d : Nat} {Q : Option Value → xM → Prop} {x1 : Int32} : X 118 8 [.ref 2, .int x1, xmk] [.null] (SH L, mi, ml, MR) d Q =
    Q (some (.int (-1))) (SH L, mi, ml, MR) := by
  refine (R_pure0 (ins := .astore_n 2) (len := 1) (loc' := [.ref 2, .int x1, .null]) (st' := []) (by decide +kernel) (fun _ => rfl)).trans ?_
  refine (R_pure0 (ins := .aload_n 2) (len := 1) (loc' := [.ref 2, .int x1, .null]) (st' := [.null]) (by decide +kernel) (fun _ => rfl)).trans ?_
  refine (R_ifnonnull_n (off := 5) (by decide +kernel)).trans ?_
  refine (R_iconst (n := (-1)) (v := (-1)) (by decide +kernel) (by decide +kernel)).trans ?_
  exact R_ireturn (by decide +kernel) (by decide +kernel)
theorem s118_19 {L : Nat} {mi : Nat → Nat → Int32} {ml : Nat → Nat → Int64} {d : Nat} {Q : Option Value → xM → Prop} {x1 y : Int32} {r2 : Nat} {n_r2 : Nat} (hS_r2 : isStrip L r2 n_r2) : X 118 19 [.ref 2, .int x1, .ref r2] [.int y] (SH L, mi, ml, MR) (d + 1) Q =
    if (y = 0) then (Xm 26 [.ref 38, .ref r2] (SH L, mi, ml, MR) d (fun v μ' => X 118 36 [.ref 2, .int x1, .ref r2] (v.toList ++ []) μ' (d + 1) Q)) else (Xm 141 [.ref 2, .int 1] (SH L, mi, ml, MR) d (fun v μ' => X 118 27 [.ref 2, .int x1, .ref r2] (v.toList ++ []) μ' (d + 1) Q)) := by
  refine (R_if_eq (off := 9) (t := 28) (by decide +kernel) (by decide +kernel)).trans (ite_congr rfl (fun c0 => ?_) (fun c0 => ?_))
  · refine (R_pure0 (ins := .aload_n 0) (len := 1) (loc' := [.ref 2, .int x1, .ref r2]) (st' := [.ref 2]) (by decide +kernel) (fun _ => rfl)).trans ?_
    refine (R_gr (i := 34) (ci := 9) (k := 4) (n := 12) (b := 38) (by decide +kernel) (by decide +kernel) (by decide) rfl (SH_ref (by decide +kernel))).trans ?_
    refine (R_pure0 (ins := .aload_n 2) (len := 1) (loc' := [.ref 2, .int x1, .ref r2]) (st' := [.ref r2, .ref 38]) (by decide +kernel) (fun _ => rfl)).trans ?_
    refine (R_virt (i := 212) (f := 26) (kd := 0) (na := 1) (ml := 2) (ci := 2) (n := 5) (b := 38) (As := [.ref r2]) (rest := []) (by decide +kernel) (by decide +kernel) (by decide) (by decide +kernel) rfl (by decide +kernel) rfl rfl (by decide +kernel) (Nat.le_of_ble_eq_true rfl)).trans ?_
    rfl
  · refine (R_pure0 (ins := .aload_n 0) (len := 1) (loc' := [.ref 2, .int x1, .ref r2]) (st' := [.ref 2]) (by decide +kernel) (fun _ => rfl)).trans ?_
    refine (R_iconst (n := 1) (v := 1) (by decide +kernel) (by decide +kernel)).trans ?_
    refine (R_virt (i := 106) (f := 141) (kd := 0) (na := 1) (ml := 2) (ci := 9) (n := 12) (b := 2) (As := [.int 1]) (rest := []) (by decide +kernel) (by decide +kernel) (by decide) (by decide +kernel) rfl (by decide +kernel) rfl rfl (by decide +kernel) (Nat.le_of_ble_eq_true rfl)).trans ?_
    rfl
theorem s118_36 {L : Nat} {mi : Nat → Nat → Int32} {ml : Nat → Nat → Int64} {d : Nat} {Q : Option Value → xM → Prop} {x1 : Int32} {r2 : Nat} {n_r2 : Nat} (hS_r2 : isStrip L r2 n_r2) : X 118 36 [.ref 2, .int x1, .ref r2] [] (SH L, mi, ml, MR) (d + 1) Q =
    Xm 88 [.ref r2] (SH L, mi, ml, MR) d (fun v μ' => X 118 40 [.ref 2, .int x1, .ref r2] (v.toList ++ []) μ' (d + 1) Q) := by
  refine (R_pure0 (ins := .aload_n 2) (len := 1) (loc' := [.ref 2, .int x1, .ref r2]) (st' := [.ref r2]) (by decide +kernel) (fun _ => rfl)).trans ?_
  refine (R_virt (i := 120) (f := 88) (kd := 0) (na := 0) (ml := 1) (ci := 8) (n := 2) (b := r2) (As := []) (rest := []) (by decide +kernel) (by decide +kernel) (by decide) (by decide +kernel) rfl (by decide +kernel) hS_r2.1 rfl (by decide +kernel) (Nat.le_of_ble_eq_true rfl)).trans ?_
  rfl
theorem s118_27 {L : Nat} {mi : Nat → Nat → Int32} {ml : Nat → Nat → Int64} {d : Nat} {Q : Option Value → xM → Prop} {x1 y : Int32} {r2 : Nat} {n_r2 : Nat} (hS_r2 : isStrip L r2 n_r2) : X 118 27 [.ref 2, .int x1, .ref r2] [.int y] (SH L, mi, ml, MR) d Q =
    Q (some (.int y)) (SH L, mi, ml, MR) := by
  exact R_ireturn (by decide +kernel) (by decide +kernel)
theorem s118_40 {L : Nat} {mi : Nat → Nat → Int32} {ml : Nat → Nat → Int64} {d : Nat} {Q : Option Value → xM → Prop} {x1 y : Int32} {r2 : Nat} {n_r2 : Nat} (hS_r2 : isStrip L r2 n_r2) : X 118 40 [.ref 2, .int x1, .ref r2] [.int y] (SH L, mi, ml, MR) d Q =
    Q (some (.int y)) (SH L, mi, ml, MR) := by
  exact R_ireturn (by decide +kernel) (by decide +kernel)
theorem s119 {L : Nat} {mi : Nat → Nat → Int32} {ml : Nat → Nat → Int64} {d : Nat} {Q : Option Value → xM → Prop} : Xm 119 [.ref 2] (SH L, mi, ml, MR) (d + 1) Q =
    Xm 17 [.ref 38] (SH L, mi, ml, MR) d (fun v μ' => X 119 7 [.ref 2] (v.toList ++ []) μ' (d + 1) Q) := by
  rw [Xm_ent (n := 1) (loc := [.ref 2]) (by decide +kernel) rfl]
  refine (R_pure0 (ins := .aload_n 0) (len := 1) (loc' := [.ref 2]) (st' := [.ref 2]) (by decide +kernel) (fun _ => rfl)).trans ?_
  refine (R_gr (i := 34) (ci := 9) (k := 4) (n := 12) (b := 38) (by decide +kernel) (by decide +kernel) (by decide) rfl (SH_ref (by decide +kernel))).trans ?_
  refine (R_virt (i := 167) (f := 17) (kd := 0) (na := 0) (ml := 1) (ci := 2) (n := 5) (b := 38) (As := []) (rest := []) (by decide +kernel) (by decide +kernel) (by decide) (by decide +kernel) rfl (by decide +kernel) rfl rfl (by decide +kernel) (Nat.le_of_ble_eq_true rfl)).trans ?_
  rfl
theorem s119_7 {L : Nat} {mi : Nat → Nat → Int32} {ml : Nat → Nat → Int64} {d : Nat} {Q : Option Value → xM → Prop} {y : Int32} : X 119 7 [.ref 2] [.int y] (SH L, mi, ml, MR) (d + 1) Q =
    if (y = 0) then (Xm 34 [.ref 48] (SH L, mi, ml, MR) d (fun v μ' => X 119 20 [.ref 2] (v.toList ++ []) μ' (d + 1) Q)) else (Q (some (.int (-4))) (SH L, mi, ml, MR)) := by
  refine (R_if_eq (off := 6) (t := 13) (by decide +kernel) (by decide +kernel)).trans (ite_congr rfl (fun c0 => ?_) (fun c0 => ?_))
  · refine (R_pure0 (ins := .aload_n 0) (len := 1) (loc' := [.ref 2]) (st' := [.ref 2]) (by decide +kernel) (fun _ => rfl)).trans ?_
    refine (R_gr (i := 43) (ci := 9) (k := 5) (n := 12) (b := 48) (by decide +kernel) (by decide +kernel) (by decide) rfl (SH_ref (by decide +kernel))).trans ?_
    refine (R_virt (i := 215) (f := 34) (kd := 0) (na := 0) (ml := 3) (ci := 3) (n := 3) (b := 48) (As := []) (rest := []) (by decide +kernel) (by decide +kernel) (by decide) (by decide +kernel) rfl (by decide +kernel) rfl rfl (by decide +kernel) (Nat.le_of_ble_eq_true rfl)).trans ?_
    rfl
  · refine (R_bipush (n := (-4)) (v := (-4)) (by decide +kernel) (by decide +kernel)).trans ?_
    exact R_ireturn (by decide +kernel) (by decide +kernel)
theorem s119_20 {L : Nat} {mi : Nat → Nat → Int32} {ml : Nat → Nat → Int64} {d : Nat} {Q : Option Value → xM → Prop} : X 119 20 [.ref 2] [] (SH L, mi, ml, MR) (d + 1) Q =
    Xm 40 [.ref 48] (SH L, mi, ml, MR) d (fun v μ' => X 119 28 [.ref 2] (v.toList ++ [.ref 2]) μ' (d + 1) Q) := by
  refine (R_pure0 (ins := .aload_n 0) (len := 1) (loc' := [.ref 2]) (st' := [.ref 2]) (by decide +kernel) (fun _ => rfl)).trans ?_
  refine (R_pure0 (ins := .aload_n 0) (len := 1) (loc' := [.ref 2]) (st' := [.ref 2, .ref 2]) (by decide +kernel) (fun _ => rfl)).trans ?_
  refine (R_gr (i := 43) (ci := 9) (k := 5) (n := 12) (b := 48) (by decide +kernel) (by decide +kernel) (by decide) rfl (SH_ref (by decide +kernel))).trans ?_
  refine (R_virt (i := 218) (f := 40) (kd := 0) (na := 0) (ml := 3) (ci := 3) (n := 3) (b := 48) (As := []) (rest := [.ref 2]) (by decide +kernel) (by decide +kernel) (by decide) (by decide +kernel) rfl (by decide +kernel) rfl rfl (by decide +kernel) (Nat.le_of_ble_eq_true rfl)).trans ?_
  rfl
theorem s119_28 {L : Nat} {mi : Nat → Nat → Int32} {ml : Nat → Nat → Int64} {d : Nat} {Q : Option Value → xM → Prop} {y : Int32} : X 119 28 [.ref 2] [.int y, .ref 2] (SH L, mi, ml, MR) (d + 1) Q =
    Xm 39 [.ref 48] (SH L, (xw mi 2 11 y), ml, MR) d (fun v μ' => X 119 38 [.ref 2] (v.toList ++ []) μ' (d + 1) Q) := by
  refine (R_pi (i := 78) (ci := 9) (k := 11) (n := 12) (by decide +kernel) (by decide +kernel) (by decide) rfl).trans ?_
  refine (R_pure0 (ins := .aload_n 0) (len := 1) (loc' := [.ref 2]) (st' := [.ref 2]) (by decide +kernel) (fun _ => rfl)).trans ?_
  refine (R_gr (i := 43) (ci := 9) (k := 5) (n := 12) (b := 48) (by decide +kernel) (by decide +kernel) (by decide) rfl (SH_ref (by decide +kernel))).trans ?_
  refine (R_virt (i := 221) (f := 39) (kd := 0) (na := 0) (ml := 3) (ci := 3) (n := 3) (b := 48) (As := []) (rest := []) (by decide +kernel) (by decide +kernel) (by decide) (by decide +kernel) rfl (by decide +kernel) rfl rfl (by decide +kernel) (Nat.le_of_ble_eq_true rfl)).trans ?_
  rfl
theorem s119_38 {L : Nat} {mi : Nat → Nat → Int32} {ml : Nat → Nat → Int64} {d : Nat} {Q : Option Value → xM → Prop} {y : Int32} : X 119 38 [.ref 2] [.int y] (SH L, mi, ml, MR) d Q =
    Q (some (.int y)) (SH L, mi, ml, MR) := by
  exact R_ireturn (by decide +kernel) (by decide +kernel)
theorem s120 {L : Nat} {mi : Nat → Nat → Int32} {ml : Nat → Nat → Int64} {d : Nat} {Q : Option Value → xM → Prop} {x1 x2 : Int32} : Xm 120 [.ref 2, .int x1, .int x2] (SH L, mi, ml, MR) (d + 1) Q =
    Xm 15 [.ref 38, .int x1] (SH L, mi, ml, MR) d (fun v μ' => X 120 8 [.ref 2, .int x1, .int x2, xmk] (v.toList ++ []) μ' (d + 1) Q) := by
  rw [Xm_ent (n := 4) (loc := [.ref 2, .int x1, .int x2, xmk]) (by decide +kernel) rfl]
  refine (R_pure0 (ins := .aload_n 0) (len := 1) (loc' := [.ref 2, .int x1, .int x2, xmk]) (st' := [.ref 2]) (by decide +kernel) (fun _ => rfl)).trans ?_
  refine (R_gr (i := 34) (ci := 9) (k := 4) (n := 12) (b := 38) (by decide +kernel) (by decide +kernel) (by decide) rfl (SH_ref (by decide +kernel))).trans ?_
  refine (R_pure0 (ins := .iload_n 1) (len := 1) (loc' := [.ref 2, .int x1, .int x2, xmk]) (st' := [.int x1, .ref 38]) (by decide +kernel) (fun _ => rfl)).trans ?_
  refine (R_virt (i := 136) (f := 15) (kd := 0) (na := 1) (ml := 2) (ci := 2) (n := 5) (b := 38) (As := [.int x1]) (rest := []) (by decide +kernel) (by decide +kernel) (by decide) (by decide +kernel) rfl (by decide +kernel) rfl rfl (by decide +kernel) (Nat.le_of_ble_eq_true rfl)).trans ?_
  rfl
theorem s120_8 {L : Nat} {mi : Nat → Nat → Int32} {ml : Nat → Nat → Int64} {d : Nat} {Q : Option Value → xM → Prop} {x1 x2 : Int32} {ry : Nat} (hS_ry : (SH L)[ry]? = some (4, 7)) : X 120 8 [.ref 2, .int x1, .int x2, xmk] [.ref ry] (SH L, mi, ml, MR) (d + 1) Q =
    Xm 142 [.int x2] (SH L, mi, ml, MR) d (fun v μ' => X 120 17 [.ref 2, .int x1, .int x2, .ref ry] (v.toList ++ []) μ' (d + 1) Q) := by
  refine (R_pure0 (ins := .astore_n 3) (len := 1) (loc' := [.ref 2, .int x1, .int x2, .ref ry]) (st' := []) (by decide +kernel) (fun _ => rfl)).trans ?_
  refine (R_pure0 (ins := .aload_n 3) (len := 1) (loc' := [.ref 2, .int x1, .int x2, .ref ry]) (st' := [.ref ry]) (by decide +kernel) (fun _ => rfl)).trans ?_
  refine (R_ifnull_r (off := 10) (by decide +kernel)).trans ?_
  refine (R_pure0 (ins := .iload_n 2) (len := 1) (loc' := [.ref 2, .int x1, .int x2, .ref ry]) (st' := [.int x2]) (by decide +kernel) (fun _ => rfl)).trans ?_
  refine (R_static (i := 160) (f := 142) (kd := 2) (na := 1) (ml := 1) (As := [.int x2]) (rest := []) (by decide +kernel) (by decide +kernel) (by decide) (by decide +kernel) rfl rfl (by decide +kernel) (Nat.le_of_ble_eq_true rfl)).trans ?_
  rfl
theorem s120_8n {L : Nat} {mi : Nat → Nat → Int32} {ml : Nat → Nat → Int64} {d : Nat} {Q : Option Value → xM → Prop} {x1 x2 : Int32} : X 120 8 [.ref 2, .int x1, .int x2, xmk] [.null] (SH L, mi, ml, MR) d Q =
    Q (some (.int (-1))) (SH L, mi, ml, MR) := by
  refine (R_pure0 (ins := .astore_n 3) (len := 1) (loc' := [.ref 2, .int x1, .int x2, .null]) (st' := []) (by decide +kernel) (fun _ => rfl)).trans ?_
  refine (R_pure0 (ins := .aload_n 3) (len := 1) (loc' := [.ref 2, .int x1, .int x2, .null]) (st' := [.null]) (by decide +kernel) (fun _ => rfl)).trans ?_
  refine (R_ifnull_n (off := 10) (t := 20) (by decide +kernel) (by decide +kernel)).trans ?_
  refine (R_iconst (n := (-1)) (v := (-1)) (by decide +kernel) (by decide +kernel)).trans ?_
  exact R_ireturn (by decide +kernel) (by decide +kernel)
theorem s120_17 {L : Nat} {mi : Nat → Nat → Int32} {ml : Nat → Nat → Int64} {d : Nat} {Q : Option Value → xM → Prop} {x1 x2 y : Int32} {r3 : Nat} (hS_r3 : (SH L)[r3]? = some (4, 7)) : X 120 17 [.ref 2, .int x1, .int x2, .ref r3] [.int y] (SH L, mi, ml, MR) (d + 1) Q =
    if (y = 0) then (Q (some (.int (-1))) (SH L, mi, ml, MR)) else (Xm 18 [.ref 38] (SH L, mi, ml, MR) d (fun v μ' => X 120 35 [.ref 2, .int x1, .int x2, .ref r3] (v.toList ++ [.int (mi r3 4), .int x2, .ref r3]) μ' (d + 1) Q)) := by
  refine (R_if_ne (off := 5) (t := 22) (by decide +kernel) (by decide +kernel)).trans (ite_congr rfl (fun c0 => ?_) (fun c0 => ?_))
  · refine (R_iconst (n := (-1)) (v := (-1)) (by decide +kernel) (by decide +kernel)).trans ?_
    exact R_ireturn (by decide +kernel) (by decide +kernel)
  · refine (R_pure0 (ins := .aload_n 3) (len := 1) (loc' := [.ref 2, .int x1, .int x2, .ref r3]) (st' := [.ref r3]) (by decide +kernel) (fun _ => rfl)).trans ?_
    refine (R_pure0 (ins := .iload_n 2) (len := 1) (loc' := [.ref 2, .int x1, .int x2, .ref r3]) (st' := [.int x2, .ref r3]) (by decide +kernel) (fun _ => rfl)).trans ?_
    refine (R_pure0 (ins := .aload_n 3) (len := 1) (loc' := [.ref 2, .int x1, .int x2, .ref r3]) (st' := [.ref r3, .int x2, .ref r3]) (by decide +kernel) (fun _ => rfl)).trans ?_
    refine (R_gi (i := 179) (ci := 4) (k := 4) (n := 7) (by decide +kernel) (by decide +kernel) (by decide) hS_r3).trans ?_
    refine (R_pure0 (ins := .aload_n 0) (len := 1) (loc' := [.ref 2, .int x1, .int x2, .ref r3]) (st' := [.ref 2, .int (mi r3 4), .int x2, .ref r3]) (by decide +kernel) (fun _ => rfl)).trans ?_
    refine (R_gr (i := 34) (ci := 9) (k := 4) (n := 12) (b := 38) (by decide +kernel) (by decide +kernel) (by decide) rfl (SH_ref (by decide +kernel))).trans ?_
    refine (R_virt (i := 140) (f := 18) (kd := 0) (na := 0) (ml := 1) (ci := 2) (n := 5) (b := 38) (As := []) (rest := [.int (mi r3 4), .int x2, .ref r3]) (by decide +kernel) (by decide +kernel) (by decide) (by decide +kernel) rfl (by decide +kernel) rfl rfl (by decide +kernel) (Nat.le_of_ble_eq_true rfl)).trans ?_
    rfl
theorem s120_35 {L : Nat} {mi : Nat → Nat → Int32} {ml : Nat → Nat → Int64} {d : Nat} {Q : Option Value → xM → Prop} {x1 x2 y z0 z1 : Int32} {r3 : Nat} (hS_r3 : (SH L)[r3]? = some (4, 7)) : X 120 35 [.ref 2, .int x1, .int x2, .ref r3] [.int y, .int z0, .int z1, .ref r3] (SH L, mi, ml, MR) (d + 1) Q =
    Xm 59 [.ref r3, .int z1, .int z0, .int y, .int 99] (SH L, mi, ml, MR) d (fun v μ' => X 120 40 [.ref 2, .int x1, .int x2, .ref r3] (v.toList ++ []) μ' (d + 1) Q) := by
  refine (R_bipush (n := 99) (v := 99) (by decide +kernel) (by decide +kernel)).trans ?_
  refine (R_virt (i := 224) (f := 59) (kd := 0) (na := 4) (ml := 7) (ci := 4) (n := 7) (b := r3) (As := [.int z1, .int z0, .int y, .int 99]) (rest := []) (by decide +kernel) (by decide +kernel) (by decide) (by decide +kernel) rfl (by decide +kernel) hS_r3 rfl (by decide +kernel) (Nat.le_of_ble_eq_true rfl)).trans ?_
  rfl
theorem s120_40 {L : Nat} {mi : Nat → Nat → Int32} {ml : Nat → Nat → Int64} {d : Nat} {Q : Option Value → xM → Prop} {x1 x2 y : Int32} {r3 : Nat} (hS_r3 : (SH L)[r3]? = some (4, 7)) : X 120 40 [.ref 2, .int x1, .int x2, .ref r3] [.int y] (SH L, mi, ml, MR) d Q =
    Q (some (.int y)) (SH L, mi, ml, MR) := by
  exact R_ireturn (by decide +kernel) (by decide +kernel)
theorem s121 {L : Nat} {mi : Nat → Nat → Int32} {ml : Nat → Nat → Int64} {d : Nat} {Q : Option Value → xM → Prop} {x1 x2 x3 : Int32} : Xm 121 [.ref 2, .int x1, .int x2, .int x3] (SH L, mi, ml, MR) (d + 1) Q =
    Xm 15 [.ref 38, .int x1] (SH L, mi, ml, MR) d (fun v μ' => X 121 8 [.ref 2, .int x1, .int x2, .int x3, xmk, xmk] (v.toList ++ []) μ' (d + 1) Q) := by
  rw [Xm_ent (n := 6) (loc := [.ref 2, .int x1, .int x2, .int x3, xmk, xmk]) (by decide +kernel) rfl]
  refine (R_pure0 (ins := .aload_n 0) (len := 1) (loc' := [.ref 2, .int x1, .int x2, .int x3, xmk, xmk]) (st' := [.ref 2]) (by decide +kernel) (fun _ => rfl)).trans ?_
  refine (R_gr (i := 34) (ci := 9) (k := 4) (n := 12) (b := 38) (by decide +kernel) (by decide +kernel) (by decide) rfl (SH_ref (by decide +kernel))).trans ?_
  refine (R_pure0 (ins := .iload_n 1) (len := 1) (loc' := [.ref 2, .int x1, .int x2, .int x3, xmk, xmk]) (st' := [.int x1, .ref 38]) (by decide +kernel) (fun _ => rfl)).trans ?_
  refine (R_virt (i := 136) (f := 15) (kd := 0) (na := 1) (ml := 2) (ci := 2) (n := 5) (b := 38) (As := [.int x1]) (rest := []) (by decide +kernel) (by decide +kernel) (by decide) (by decide +kernel) rfl (by decide +kernel) rfl rfl (by decide +kernel) (Nat.le_of_ble_eq_true rfl)).trans ?_
  rfl
theorem s121_8 {L : Nat} {mi : Nat → Nat → Int32} {ml : Nat → Nat → Int64} {d : Nat} {Q : Option Value → xM → Prop} {x1 x2 x3 : Int32} {ry : Nat} (hS_ry : (SH L)[ry]? = some (4, 7)) : X 121 8 [.ref 2, .int x1, .int x2, .int x3, xmk, xmk] [.ref ry] (SH L, mi, ml, MR) (d + 1) Q =
    Xm 142 [.int x2] (SH L, mi, ml, MR) d (fun v μ' => X 121 19 [.ref 2, .int x1, .int x2, .int x3, .ref ry, xmk] (v.toList ++ []) μ' (d + 1) Q) := by
  refine (R_pure0 (ins := .astore 4) (len := 2) (loc' := [.ref 2, .int x1, .int x2, .int x3, .ref ry, xmk]) (st' := []) (by decide +kernel) (fun _ => rfl)).trans ?_
  refine (R_pure0 (ins := .aload 4) (len := 2) (loc' := [.ref 2, .int x1, .int x2, .int x3, .ref ry, xmk]) (st' := [.ref ry]) (by decide +kernel) (fun _ => rfl)).trans ?_
  refine (R_ifnull_r (off := 20) (by decide +kernel)).trans ?_
  refine (R_pure0 (ins := .iload_n 2) (len := 1) (loc' := [.ref 2, .int x1, .int x2, .int x3, .ref ry, xmk]) (st' := [.int x2]) (by decide +kernel) (fun _ => rfl)).trans ?_
  refine (R_static (i := 160) (f := 142) (kd := 2) (na := 1) (ml := 1) (As := [.int x2]) (rest := []) (by decide +kernel) (by decide +kernel) (by decide) (by decide +kernel) rfl rfl (by decide +kernel) (Nat.le_of_ble_eq_true rfl)).trans ?_
  rfl
theorem s121_8n {L : Nat} {mi : Nat → Nat → Int32} {ml : Nat → Nat → Int64} {d : Nat} {Q : Option Value → xM → Prop} {x1 x2 x3 : Int32} : X 121 8 [.ref 2, .int x1, .int x2, .int x3, xmk, xmk] [.null] (SH L, mi, ml, MR) d Q =
    Q (some (.int (-1))) (SH L, mi, ml, MR) := by
  refine (R_pure0 (ins := .astore 4) (len := 2) (loc' := [.ref 2, .int x1, .int x2, .int x3, .null, xmk]) (st' := []) (by decide +kernel) (fun _ => rfl)).trans ?_
  refine (R_pure0 (ins := .aload 4) (len := 2) (loc' := [.ref 2, .int x1, .int x2, .int x3, .null, xmk]) (st' := [.null]) (by decide +kernel) (fun _ => rfl)).trans ?_
  refine (R_ifnull_n (off := 20) (t := 32) (by decide +kernel) (by decide +kernel)).trans ?_
  refine (R_iconst (n := (-1)) (v := (-1)) (by decide +kernel) (by decide +kernel)).trans ?_
  exact R_ireturn (by decide +kernel) (by decide +kernel)
theorem s121_19 {L : Nat} {mi : Nat → Nat → Int32} {ml : Nat → Nat → Int64} {d : Nat} {Q : Option Value → xM → Prop} {x1 x2 x3 y : Int32} {r4 : Nat} (hS_r4 : (SH L)[r4]? = some (4, 7)) : X 121 19 [.ref 2, .int x1, .int x2, .int x3, .ref r4, xmk] [.int y] (SH L, mi, ml, MR) d Q =
    if (y = 0) then (Q (some (.int (-1))) (SH L, mi, ml, MR)) else (if (x3 < 0) then (Q (some (.int (-1))) (SH L, mi, ml, MR)) else (if ((40 : Int32) < x3) then (Q (some (.int (-1))) (SH L, mi, ml, MR)) else (X 121 41 [.ref 2, .int x1, .int x2, .int x3, .ref r4, .int (mi r4 4)] [] (SH L, mi, ml, MR) d Q))) := by
  refine (R_if_eq (off := 13) (t := 32) (by decide +kernel) (by decide +kernel)).trans (ite_congr rfl (fun c0 => ?_) (fun c0 => ?_))
  · refine (R_iconst (n := (-1)) (v := (-1)) (by decide +kernel) (by decide +kernel)).trans ?_
    exact R_ireturn (by decide +kernel) (by decide +kernel)
  · refine (R_pure0 (ins := .iload_n 3) (len := 1) (loc' := [.ref 2, .int x1, .int x2, .int x3, .ref r4, xmk]) (st' := [.int x3]) (by decide +kernel) (fun _ => rfl)).trans ?_
    refine (R_if_lt (off := 9) (t := 32) (by decide +kernel) (by decide +kernel)).trans (ite_congr rfl (fun c1 => ?_) (fun c1 => ?_))
    · refine (R_iconst (n := (-1)) (v := (-1)) (by decide +kernel) (by decide +kernel)).trans ?_
      exact R_ireturn (by decide +kernel) (by decide +kernel)
    · refine (R_pure0 (ins := .iload_n 3) (len := 1) (loc' := [.ref 2, .int x1, .int x2, .int x3, .ref r4, xmk]) (st' := [.int x3]) (by decide +kernel) (fun _ => rfl)).trans ?_
      refine (R_bipush (n := 40) (v := 40) (by decide +kernel) (by decide +kernel)).trans ?_
      refine (R_icmp_le (off := 5) (t := 34) (by decide +kernel) (by decide +kernel)).trans (ite_congr rfl (fun c2 => ?_) (fun c2 => ?_))
      · refine (R_iconst (n := (-1)) (v := (-1)) (by decide +kernel) (by decide +kernel)).trans ?_
        exact R_ireturn (by decide +kernel) (by decide +kernel)
      · refine (R_pure0 (ins := .aload 4) (len := 2) (loc' := [.ref 2, .int x1, .int x2, .int x3, .ref r4, xmk]) (st' := [.ref r4]) (by decide +kernel) (fun _ => rfl)).trans ?_
        refine (R_gi (i := 179) (ci := 4) (k := 4) (n := 7) (by decide +kernel) (by decide +kernel) (by decide) hS_r4).trans ?_
        refine (R_pure0 (ins := .istore 5) (len := 2) (loc' := [.ref 2, .int x1, .int x2, .int x3, .ref r4, .int (mi r4 4)]) (st' := []) (by decide +kernel) (fun _ => rfl)).trans ?_
        rfl
theorem s121_41 {L : Nat} {mi : Nat → Nat → Int32} {ml : Nat → Nat → Int64} {d : Nat} {Q : Option Value → xM → Prop} {x1 x2 x3 x5 : Int32} {r4 : Nat} (hS_r4 : (SH L)[r4]? = some (4, 7)) : X 121 41 [.ref 2, .int x1, .int x2, .int x3, .ref r4, .int x5] [] (SH L, mi, ml, MR) (d + 1) Q =
    if ((9 : Int32) < x5) then (Q (some (.int (-9))) (SH L, mi, ml, MR)) else (Xm 18 [.ref 38] (SH L, mi, ml, MR) d (fun v μ' => X 121 60 [.ref 2, .int x1, .int x2, .int x3, .ref r4, .int x5] (v.toList ++ [.int x5, .int x2, .ref r4]) μ' (d + 1) Q)) := by
  refine (R_pure0 (ins := .iload 5) (len := 2) (loc' := [.ref 2, .int x1, .int x2, .int x3, .ref r4, .int x5]) (st' := [.int x5]) (by decide +kernel) (fun _ => rfl)).trans ?_
  refine (R_bipush (n := 9) (v := 9) (by decide +kernel) (by decide +kernel)).trans ?_
  refine (R_icmp_gt (off := 39) (t := 84) (by decide +kernel) (by decide +kernel)).trans (ite_congr rfl (fun c0 => ?_) (fun c0 => ?_))
  · refine (R_bipush (n := (-9)) (v := (-9)) (by decide +kernel) (by decide +kernel)).trans ?_
    exact R_ireturn (by decide +kernel) (by decide +kernel)
  · refine (R_pure0 (ins := .aload 4) (len := 2) (loc' := [.ref 2, .int x1, .int x2, .int x3, .ref r4, .int x5]) (st' := [.ref r4]) (by decide +kernel) (fun _ => rfl)).trans ?_
    refine (R_pure0 (ins := .iload_n 2) (len := 1) (loc' := [.ref 2, .int x1, .int x2, .int x3, .ref r4, .int x5]) (st' := [.int x2, .ref r4]) (by decide +kernel) (fun _ => rfl)).trans ?_
    refine (R_pure0 (ins := .iload 5) (len := 2) (loc' := [.ref 2, .int x1, .int x2, .int x3, .ref r4, .int x5]) (st' := [.int x5, .int x2, .ref r4]) (by decide +kernel) (fun _ => rfl)).trans ?_
    refine (R_pure0 (ins := .aload_n 0) (len := 1) (loc' := [.ref 2, .int x1, .int x2, .int x3, .ref r4, .int x5]) (st' := [.ref 2, .int x5, .int x2, .ref r4]) (by decide +kernel) (fun _ => rfl)).trans ?_
    refine (R_gr (i := 34) (ci := 9) (k := 4) (n := 12) (b := 38) (by decide +kernel) (by decide +kernel) (by decide) rfl (SH_ref (by decide +kernel))).trans ?_
    refine (R_virt (i := 140) (f := 18) (kd := 0) (na := 0) (ml := 1) (ci := 2) (n := 5) (b := 38) (As := []) (rest := [.int x5, .int x2, .ref r4]) (by decide +kernel) (by decide +kernel) (by decide) (by decide +kernel) rfl (by decide +kernel) rfl rfl (by decide +kernel) (Nat.le_of_ble_eq_true rfl)).trans ?_
    rfl
theorem s121_60 {L : Nat} {mi : Nat → Nat → Int32} {ml : Nat → Nat → Int64} {d : Nat} {Q : Option Value → xM → Prop} {x1 x2 x3 x5 y z0 z1 : Int32} {r4 : Nat} (hS_r4 : (SH L)[r4]? = some (4, 7)) : X 121 60 [.ref 2, .int x1, .int x2, .int x3, .ref r4, .int x5] [.int y, .int z0, .int z1, .ref r4] (SH L, mi, ml, MR) (d + 1) Q =
    Xm 59 [.ref r4, .int z1, .int z0, .int y, .int x3] (SH L, mi, ml, MR) d (fun v μ' => X 121 64 [.ref 2, .int x1, .int x2, .int x3, .ref r4, .int x5] (v.toList ++ []) μ' (d + 1) Q) := by
  refine (R_pure0 (ins := .iload_n 3) (len := 1) (loc' := [.ref 2, .int x1, .int x2, .int x3, .ref r4, .int x5]) (st' := [.int x3, .int y, .int z0, .int z1, .ref r4]) (by decide +kernel) (fun _ => rfl)).trans ?_
  refine (R_virt (i := 224) (f := 59) (kd := 0) (na := 4) (ml := 7) (ci := 4) (n := 7) (b := r4) (As := [.int z1, .int z0, .int y, .int x3]) (rest := []) (by decide +kernel) (by decide +kernel) (by decide) (by decide +kernel) rfl (by decide +kernel) hS_r4 rfl (by decide +kernel) (Nat.le_of_ble_eq_true rfl)).trans ?_
  rfl
theorem s121_64 {L : Nat} {mi : Nat → Nat → Int32} {ml : Nat → Nat → Int64} {d : Nat} {Q : Option Value → xM → Prop} {x1 x2 x3 x5 y : Int32} {r4 : Nat} (hS_r4 : (SH L)[r4]? = some (4, 7)) : X 121 64 [.ref 2, .int x1, .int x2, .int x3, .ref r4, .int x5] [.int y] (SH L, mi, ml, MR) d Q =
    if (y = (-9)) then (X 121 41 [.ref 2, .int x1, .int x2, .int x3, .ref r4, .int (x5 + 1)] [] (SH L, mi, ml, MR) d Q) else (Q (some (.int (x5 - (mi r4 4)))) (SH L, mi, ml, MR)) := by
  refine (R_bipush (n := (-9)) (v := (-9)) (by decide +kernel) (by decide +kernel)).trans ?_
  refine (R_icmp_eq (off := 12) (t := 78) (by decide +kernel) (by decide +kernel)).trans (ite_congr rfl (fun c0 => ?_) (fun c0 => ?_))
  · refine (R_iinc (k := 5) (n := 1) (x := x5) (v := (x5 + 1)) (loc' := [.ref 2, .int x1, .int x2, .int x3, .ref r4, .int (x5 + 1)]) (by decide +kernel) rfl rfl rfl).trans ?_
    refine (R_goto (off := (-40)) (t := 41) (by decide +kernel) (by decide +kernel)).trans ?_
    rfl
  · refine (R_pure0 (ins := .iload 5) (len := 2) (loc' := [.ref 2, .int x1, .int x2, .int x3, .ref r4, .int x5]) (st' := [.int x5]) (by decide +kernel) (fun _ => rfl)).trans ?_
    refine (R_pure0 (ins := .aload 4) (len := 2) (loc' := [.ref 2, .int x1, .int x2, .int x3, .ref r4, .int x5]) (st' := [.ref r4, .int x5]) (by decide +kernel) (fun _ => rfl)).trans ?_
    refine (R_gi (i := 179) (ci := 4) (k := 4) (n := 7) (by decide +kernel) (by decide +kernel) (by decide) hS_r4).trans ?_
    refine (R_pure0 (ins := .isub) (len := 1) (loc' := [.ref 2, .int x1, .int x2, .int x3, .ref r4, .int x5]) (st' := [.int (x5 - (mi r4 4))]) (by decide +kernel) (fun _ => rfl)).trans ?_
    exact R_ireturn (by decide +kernel) (by decide +kernel)
theorem s122 {L : Nat} {mi : Nat → Nat → Int32} {ml : Nat → Nat → Int64} {d : Nat} {Q : Option Value → xM → Prop} {x1 x2 : Int32} : Xm 122 [.ref 2, .int x1, .int x2] (SH L, mi, ml, MR) (d + 1) Q =
    Xm 82 [.ref 3, .int x2] (SH L, mi, ml, MR) d (fun v μ' => X 122 8 [.ref 2, .int x1, .int x2, xmk, xmk, xmk] (v.toList ++ []) μ' (d + 1) Q) := by
  rw [Xm_ent (n := 6) (loc := [.ref 2, .int x1, .int x2, xmk, xmk, xmk]) (by decide +kernel) rfl]
  refine (R_pure0 (ins := .aload_n 0) (len := 1) (loc' := [.ref 2, .int x1, .int x2, xmk, xmk, xmk]) (st' := [.ref 2]) (by decide +kernel) (fun _ => rfl)).trans ?_
  refine (R_gr (i := 14) (ci := 9) (k := 0) (n := 12) (b := 3) (by decide +kernel) (by decide +kernel) (by decide) rfl (SH_ref (by decide +kernel))).trans ?_
  refine (R_pure0 (ins := .iload_n 2) (len := 1) (loc' := [.ref 2, .int x1, .int x2, xmk, xmk, xmk]) (st' := [.int x2, .ref 3]) (by decide +kernel) (fun _ => rfl)).trans ?_
  refine (R_virt (i := 81) (f := 82) (kd := 0) (na := 1) (ml := 2) (ci := 7) (n := 1) (b := 3) (As := [.int x2]) (rest := []) (by decide +kernel) (by decide +kernel) (by decide) (by decide +kernel) rfl (by decide +kernel) rfl rfl (by decide +kernel) (Nat.le_of_ble_eq_true rfl)).trans ?_
  rfl
theorem s122_8 {L : Nat} {mi : Nat → Nat → Int32} {ml : Nat → Nat → Int64} {d : Nat} {Q : Option Value → xM → Prop} {x1 x2 : Int32} {ry : Nat} {n_ry : Nat} (hS_ry : isStrip L ry n_ry) : X 122 8 [.ref 2, .int x1, .int x2, xmk, xmk, xmk] [.ref ry] (SH L, mi, ml, MR) (d + 1) Q =
    Xm 82 [.ref 3, .int x1] (SH L, mi, ml, MR) d (fun v μ' => X 122 24 [.ref 2, .int x1, .int x2, .ref ry, xmk, xmk] (v.toList ++ [.ref 2]) μ' (d + 1) Q) := by
  refine (R_pure0 (ins := .astore_n 3) (len := 1) (loc' := [.ref 2, .int x1, .int x2, .ref ry, xmk, xmk]) (st' := []) (by decide +kernel) (fun _ => rfl)).trans ?_
  refine (R_pure0 (ins := .aload_n 3) (len := 1) (loc' := [.ref 2, .int x1, .int x2, .ref ry, xmk, xmk]) (st' := [.ref ry]) (by decide +kernel) (fun _ => rfl)).trans ?_
  refine (R_ifnonnull_r (off := 5) (t := 15) (by decide +kernel) (by decide +kernel)).trans ?_
  refine (R_pure0 (ins := .aload_n 0) (len := 1) (loc' := [.ref 2, .int x1, .int x2, .ref ry, xmk, xmk]) (st' := [.ref 2]) (by decide +kernel) (fun _ => rfl)).trans ?_
  refine (R_pure0 (ins := .aload_n 0) (len := 1) (loc' := [.ref 2, .int x1, .int x2, .ref ry, xmk, xmk]) (st' := [.ref 2, .ref 2]) (by decide +kernel) (fun _ => rfl)).trans ?_
  refine (R_gr (i := 14) (ci := 9) (k := 0) (n := 12) (b := 3) (by decide +kernel) (by decide +kernel) (by decide) rfl (SH_ref (by decide +kernel))).trans ?_
  refine (R_pure0 (ins := .iload_n 1) (len := 1) (loc' := [.ref 2, .int x1, .int x2, .ref ry, xmk, xmk]) (st' := [.int x1, .ref 3, .ref 2]) (by decide +kernel) (fun _ => rfl)).trans ?_
  refine (R_virt (i := 81) (f := 82) (kd := 0) (na := 1) (ml := 2) (ci := 7) (n := 1) (b := 3) (As := [.int x1]) (rest := [.ref 2]) (by decide +kernel) (by decide +kernel) (by decide) (by decide +kernel) rfl (by decide +kernel) rfl rfl (by decide +kernel) (Nat.le_of_ble_eq_true rfl)).trans ?_
  rfl
theorem s122_8n {L : Nat} {mi : Nat → Nat → Int32} {ml : Nat → Nat → Int64} {d : Nat} {Q : Option Value → xM → Prop} {x1 x2 : Int32} : X 122 8 [.ref 2, .int x1, .int x2, xmk, xmk, xmk] [.null] (SH L, mi, ml, MR) d Q =
    Q (some (.int (-1))) (SH L, mi, ml, MR) := by
  refine (R_pure0 (ins := .astore_n 3) (len := 1) (loc' := [.ref 2, .int x1, .int x2, .null, xmk, xmk]) (st' := []) (by decide +kernel) (fun _ => rfl)).trans ?_
  refine (R_pure0 (ins := .aload_n 3) (len := 1) (loc' := [.ref 2, .int x1, .int x2, .null, xmk, xmk]) (st' := [.null]) (by decide +kernel) (fun _ => rfl)).trans ?_
  refine (R_ifnonnull_n (off := 5) (by decide +kernel)).trans ?_
  refine (R_iconst (n := (-1)) (v := (-1)) (by decide +kernel) (by decide +kernel)).trans ?_
  exact R_ireturn (by decide +kernel) (by decide +kernel)
theorem s122_24 {L : Nat} {mi : Nat → Nat → Int32} {ml : Nat → Nat → Int64} {d : Nat} {Q : Option Value → xM → Prop} {x1 x2 : Int32} {r3 ry : Nat} {n_r3 : Nat} {n_ry : Nat} (hS_r3 : isStrip L r3 n_r3) (hS_ry : isStrip L ry n_ry) : X 122 24 [.ref 2, .int x1, .int x2, .ref r3, xmk, xmk] [.ref ry, .ref 2] (SH L, mi, ml, MR) (d + 1) Q =
    Xm 146 [.ref 2, .ref ry] (SH L, mi, ml, MR) d (fun v μ' => X 122 27 [.ref 2, .int x1, .int x2, .ref r3, xmk, xmk] (v.toList ++ []) μ' (d + 1) Q) := by
  refine (R_virt (i := 228) (f := 146) (kd := 0) (na := 1) (ml := 3) (ci := 9) (n := 12) (b := 2) (As := [.ref ry]) (rest := []) (by decide +kernel) (by decide +kernel) (by decide) (by decide +kernel) rfl (by decide +kernel) rfl rfl (by decide +kernel) (Nat.le_of_ble_eq_true rfl)).trans ?_
  rfl
theorem s122_24n {L : Nat} {mi : Nat → Nat → Int32} {ml : Nat → Nat → Int64} {d : Nat} {Q : Option Value → xM → Prop} {x1 x2 : Int32} {r3 : Nat} {n_r3 : Nat} (hS_r3 : isStrip L r3 n_r3) : X 122 24 [.ref 2, .int x1, .int x2, .ref r3, xmk, xmk] [.null, .ref 2] (SH L, mi, ml, MR) (d + 1) Q =
    Xm 146 [.ref 2, .null] (SH L, mi, ml, MR) d (fun v μ' => X 122 27 [.ref 2, .int x1, .int x2, .ref r3, xmk, xmk] (v.toList ++ []) μ' (d + 1) Q) := by
  refine (R_virt (i := 228) (f := 146) (kd := 0) (na := 1) (ml := 3) (ci := 9) (n := 12) (b := 2) (As := [.null]) (rest := []) (by decide +kernel) (by decide +kernel) (by decide) (by decide +kernel) rfl (by decide +kernel) rfl rfl (by decide +kernel) (Nat.le_of_ble_eq_true rfl)).trans ?_
  rfl
theorem s122_27 {L : Nat} {mi : Nat → Nat → Int32} {ml : Nat → Nat → Int64} {d : Nat} {Q : Option Value → xM → Prop} {x1 x2 y : Int32} {r3 : Nat} {n_r3 : Nat} (hS_r3 : isStrip L r3 n_r3) : X 122 27 [.ref 2, .int x1, .int x2, .ref r3, xmk, xmk] [.int y] (SH L, mi, ml, MR) (d + 1) Q =
    if (y = 0) then (Xm 77 [.ref 51] (SH L, mi, ml, MR) d (fun v μ' => X 122 44 [.ref 2, .int x1, .int x2, .ref r3, .int y, xmk] (v.toList ++ []) μ' (d + 1) Q)) else (Q (some (.int y)) (SH L, mi, ml, MR)) := by
  refine (R_pure0 (ins := .istore 4) (len := 2) (loc' := [.ref 2, .int x1, .int x2, .ref r3, .int y, xmk]) (st' := []) (by decide +kernel) (fun _ => rfl)).trans ?_
  refine (R_pure0 (ins := .iload 4) (len := 2) (loc' := [.ref 2, .int x1, .int x2, .ref r3, .int y, xmk]) (st' := [.int y]) (by decide +kernel) (fun _ => rfl)).trans ?_
  refine (R_if_eq (off := 6) (t := 37) (by decide +kernel) (by decide +kernel)).trans (ite_congr rfl (fun c0 => ?_) (fun c0 => ?_))
  · refine (R_pure0 (ins := .aload_n 0) (len := 1) (loc' := [.ref 2, .int x1, .int x2, .ref r3, .int y, xmk]) (st' := [.ref 2]) (by decide +kernel) (fun _ => rfl)).trans ?_
    refine (R_gr (i := 52) (ci := 9) (k := 6) (n := 12) (b := 51) (by decide +kernel) (by decide +kernel) (by decide) rfl (SH_ref (by decide +kernel))).trans ?_
    refine (R_virt (i := 231) (f := 77) (kd := 0) (na := 0) (ml := 1) (ci := 6) (n := 12) (b := 51) (As := []) (rest := []) (by decide +kernel) (by decide +kernel) (by decide) (by decide +kernel) rfl (by decide +kernel) rfl rfl (by decide +kernel) (Nat.le_of_ble_eq_true rfl)).trans ?_
    rfl
  · refine (R_pure0 (ins := .iload 4) (len := 2) (loc' := [.ref 2, .int x1, .int x2, .ref r3, .int y, xmk]) (st' := [.int y]) (by decide +kernel) (fun _ => rfl)).trans ?_
    exact R_ireturn (by decide +kernel) (by decide +kernel)
theorem s122_44 {L : Nat} {mi : Nat → Nat → Int32} {ml : Nat → Nat → Int64} {d : Nat} {Q : Option Value → xM → Prop} {x1 x2 x4 y : Int32} {r3 : Nat} {n_r3 : Nat} (hS_r3 : isStrip L r3 n_r3) : X 122 44 [.ref 2, .int x1, .int x2, .ref r3, .int x4, xmk] [.int y] (SH L, mi, ml, MR) (d + 1) Q =
    if (y = (-9)) then (Q (some (.int y)) (SH L, mi, ml, MR)) else (Xm 73 [.ref 51] (SH L, mi, ml, MR) d (fun v μ' => X 122 61 [.ref 2, .int x1, .int x2, .ref r3, .int x4, .int y] (v.toList ++ [.ref r3]) μ' (d + 1) Q)) := by
  refine (R_pure0 (ins := .istore 5) (len := 2) (loc' := [.ref 2, .int x1, .int x2, .ref r3, .int x4, .int y]) (st' := []) (by decide +kernel) (fun _ => rfl)).trans ?_
  refine (R_pure0 (ins := .iload 5) (len := 2) (loc' := [.ref 2, .int x1, .int x2, .ref r3, .int x4, .int y]) (st' := [.int y]) (by decide +kernel) (fun _ => rfl)).trans ?_
  refine (R_bipush (n := (-9)) (v := (-9)) (by decide +kernel) (by decide +kernel)).trans ?_
  refine (R_icmp_eq (off := 14) (t := 64) (by decide +kernel) (by decide +kernel)).trans (ite_congr rfl (fun c0 => ?_) (fun c0 => ?_))
  · refine (R_pure0 (ins := .iload 5) (len := 2) (loc' := [.ref 2, .int x1, .int x2, .ref r3, .int x4, .int y]) (st' := [.int y]) (by decide +kernel) (fun _ => rfl)).trans ?_
    exact R_ireturn (by decide +kernel) (by decide +kernel)
  · refine (R_pure0 (ins := .aload_n 3) (len := 1) (loc' := [.ref 2, .int x1, .int x2, .ref r3, .int x4, .int y]) (st' := [.ref r3]) (by decide +kernel) (fun _ => rfl)).trans ?_
    refine (R_pure0 (ins := .aload_n 0) (len := 1) (loc' := [.ref 2, .int x1, .int x2, .ref r3, .int x4, .int y]) (st' := [.ref 2, .ref r3]) (by decide +kernel) (fun _ => rfl)).trans ?_
    refine (R_gr (i := 52) (ci := 9) (k := 6) (n := 12) (b := 51) (by decide +kernel) (by decide +kernel) (by decide) rfl (SH_ref (by decide +kernel))).trans ?_
    refine (R_virt (i := 234) (f := 73) (kd := 0) (na := 0) (ml := 1) (ci := 6) (n := 12) (b := 51) (As := []) (rest := [.ref r3]) (by decide +kernel) (by decide +kernel) (by decide) (by decide +kernel) rfl (by decide +kernel) rfl rfl (by decide +kernel) (Nat.le_of_ble_eq_true rfl)).trans ?_
    rfl
theorem s122_61 {L : Nat} {mi : Nat → Nat → Int32} {ml : Nat → Nat → Int64} {d : Nat} {Q : Option Value → xM → Prop} {x1 x2 x4 x5 : Int32} {r3 ry : Nat} {n_r3 : Nat} {n_ry : Nat} (hS_r3 : isStrip L r3 n_r3) (hS_ry : isStrip L ry n_ry) : X 122 61 [.ref 2, .int x1, .int x2, .ref r3, .int x4, .int x5] [.ref ry, .ref r3] (SH L, mi, ml, MR) (d + 1) Q =
    Xm 97 [.ref r3, .ref ry] (SH L, mi, ml, MR) d (fun v μ' => X 122 64 [.ref 2, .int x1, .int x2, .ref r3, .int x4, .int x5] (v.toList ++ []) μ' (d + 1) Q) := by
  refine (R_virt (i := 208) (f := 97) (kd := 0) (na := 1) (ml := 2) (ci := 8) (n := 2) (b := r3) (As := [.ref ry]) (rest := []) (by decide +kernel) (by decide +kernel) (by decide) (by decide +kernel) rfl (by decide +kernel) hS_r3.1 rfl (by decide +kernel) (Nat.le_of_ble_eq_true rfl)).trans ?_
  rfl
theorem s122_61n {L : Nat} {mi : Nat → Nat → Int32} {ml : Nat → Nat → Int64} {d : Nat} {Q : Option Value → xM → Prop} {x1 x2 x4 x5 : Int32} {r3 : Nat} {n_r3 : Nat} (hS_r3 : isStrip L r3 n_r3) : X 122 61 [.ref 2, .int x1, .int x2, .ref r3, .int x4, .int x5] [.null, .ref r3] (SH L, mi, ml, MR) (d + 1) Q =
    Xm 97 [.ref r3, .null] (SH L, mi, ml, MR) d (fun v μ' => X 122 64 [.ref 2, .int x1, .int x2, .ref r3, .int x4, .int x5] (v.toList ++ []) μ' (d + 1) Q) := by
  refine (R_virt (i := 208) (f := 97) (kd := 0) (na := 1) (ml := 2) (ci := 8) (n := 2) (b := r3) (As := [.null]) (rest := []) (by decide +kernel) (by decide +kernel) (by decide) (by decide +kernel) rfl (by decide +kernel) hS_r3.1 rfl (by decide +kernel) (Nat.le_of_ble_eq_true rfl)).trans ?_
  rfl
theorem s122_64 {L : Nat} {mi : Nat → Nat → Int32} {ml : Nat → Nat → Int64} {d : Nat} {Q : Option Value → xM → Prop} {x1 x2 x4 x5 : Int32} {r3 : Nat} {n_r3 : Nat} (hS_r3 : isStrip L r3 n_r3) : X 122 64 [.ref 2, .int x1, .int x2, .ref r3, .int x4, .int x5] [] (SH L, mi, ml, MR) d Q =
    Q (some (.int x5)) (SH L, mi, ml, MR) := by
  refine (R_pure0 (ins := .iload 5) (len := 2) (loc' := [.ref 2, .int x1, .int x2, .ref r3, .int x4, .int x5]) (st' := [.int x5]) (by decide +kernel) (fun _ => rfl)).trans ?_
  exact R_ireturn (by decide +kernel) (by decide +kernel)
theorem s123 {L : Nat} {mi : Nat → Nat → Int32} {ml : Nat → Nat → Int64} {d : Nat} {Q : Option Value → xM → Prop} {x1 : Int32} : Xm 123 [.ref 2, .int x1] (SH L, mi, ml, MR) (d + 1) Q =
    Xm 82 [.ref 3, .int x1] (SH L, mi, ml, MR) d (fun v μ' => X 123 9 [.ref 2, .int x1, xmk] (v.toList ++ [.ref 2]) μ' (d + 1) Q) := by
  rw [Xm_ent (n := 3) (loc := [.ref 2, .int x1, xmk]) (by decide +kernel) rfl]
  refine (R_pure0 (ins := .aload_n 0) (len := 1) (loc' := [.ref 2, .int x1, xmk]) (st' := [.ref 2]) (by decide +kernel) (fun _ => rfl)).trans ?_
  refine (R_pure0 (ins := .aload_n 0) (len := 1) (loc' := [.ref 2, .int x1, xmk]) (st' := [.ref 2, .ref 2]) (by decide +kernel) (fun _ => rfl)).trans ?_
  refine (R_gr (i := 14) (ci := 9) (k := 0) (n := 12) (b := 3) (by decide +kernel) (by decide +kernel) (by decide) rfl (SH_ref (by decide +kernel))).trans ?_
  refine (R_pure0 (ins := .iload_n 1) (len := 1) (loc' := [.ref 2, .int x1, xmk]) (st' := [.int x1, .ref 3, .ref 2]) (by decide +kernel) (fun _ => rfl)).trans ?_
  refine (R_virt (i := 81) (f := 82) (kd := 0) (na := 1) (ml := 2) (ci := 7) (n := 1) (b := 3) (As := [.int x1]) (rest := [.ref 2]) (by decide +kernel) (by decide +kernel) (by decide) (by decide +kernel) rfl (by decide +kernel) rfl rfl (by decide +kernel) (Nat.le_of_ble_eq_true rfl)).trans ?_
  rfl
theorem s123_9 {L : Nat} {mi : Nat → Nat → Int32} {ml : Nat → Nat → Int64} {d : Nat} {Q : Option Value → xM → Prop} {x1 : Int32} {ry : Nat} {n_ry : Nat} (hS_ry : isStrip L ry n_ry) : X 123 9 [.ref 2, .int x1, xmk] [.ref ry, .ref 2] (SH L, mi, ml, MR) (d + 1) Q =
    Xm 146 [.ref 2, .ref ry] (SH L, mi, ml, MR) d (fun v μ' => X 123 12 [.ref 2, .int x1, xmk] (v.toList ++ []) μ' (d + 1) Q) := by
  refine (R_virt (i := 228) (f := 146) (kd := 0) (na := 1) (ml := 3) (ci := 9) (n := 12) (b := 2) (As := [.ref ry]) (rest := []) (by decide +kernel) (by decide +kernel) (by decide) (by decide +kernel) rfl (by decide +kernel) rfl rfl (by decide +kernel) (Nat.le_of_ble_eq_true rfl)).trans ?_
  rfl
theorem s123_9n {L : Nat} {mi : Nat → Nat → Int32} {ml : Nat → Nat → Int64} {d : Nat} {Q : Option Value → xM → Prop} {x1 : Int32} : X 123 9 [.ref 2, .int x1, xmk] [.null, .ref 2] (SH L, mi, ml, MR) (d + 1) Q =
    Xm 146 [.ref 2, .null] (SH L, mi, ml, MR) d (fun v μ' => X 123 12 [.ref 2, .int x1, xmk] (v.toList ++ []) μ' (d + 1) Q) := by
  refine (R_virt (i := 228) (f := 146) (kd := 0) (na := 1) (ml := 3) (ci := 9) (n := 12) (b := 2) (As := [.null]) (rest := []) (by decide +kernel) (by decide +kernel) (by decide) (by decide +kernel) rfl (by decide +kernel) rfl rfl (by decide +kernel) (Nat.le_of_ble_eq_true rfl)).trans ?_
  rfl
theorem s123_12 {L : Nat} {mi : Nat → Nat → Int32} {ml : Nat → Nat → Int64} {d : Nat} {Q : Option Value → xM → Prop} {x1 y : Int32} : X 123 12 [.ref 2, .int x1, xmk] [.int y] (SH L, mi, ml, MR) (d + 1) Q =
    if (y = 0) then (Xm 75 [.ref 51] (SH L, mi, ml, MR) d (fun v μ' => X 123 26 [.ref 2, .int x1, .int y] (v.toList ++ []) μ' (d + 1) Q)) else (Q (some (.int y)) (SH L, mi, ml, MR)) := by
  refine (R_pure0 (ins := .istore_n 2) (len := 1) (loc' := [.ref 2, .int x1, .int y]) (st' := []) (by decide +kernel) (fun _ => rfl)).trans ?_
  refine (R_pure0 (ins := .iload_n 2) (len := 1) (loc' := [.ref 2, .int x1, .int y]) (st' := [.int y]) (by decide +kernel) (fun _ => rfl)).trans ?_
  refine (R_if_eq (off := 5) (t := 19) (by decide +kernel) (by decide +kernel)).trans (ite_congr rfl (fun c0 => ?_) (fun c0 => ?_))
  · refine (R_pure0 (ins := .aload_n 0) (len := 1) (loc' := [.ref 2, .int x1, .int y]) (st' := [.ref 2]) (by decide +kernel) (fun _ => rfl)).trans ?_
    refine (R_gr (i := 52) (ci := 9) (k := 6) (n := 12) (b := 51) (by decide +kernel) (by decide +kernel) (by decide) rfl (SH_ref (by decide +kernel))).trans ?_
    refine (R_virt (i := 237) (f := 75) (kd := 0) (na := 0) (ml := 1) (ci := 6) (n := 12) (b := 51) (As := []) (rest := []) (by decide +kernel) (by decide +kernel) (by decide) (by decide +kernel) rfl (by decide +kernel) rfl rfl (by decide +kernel) (Nat.le_of_ble_eq_true rfl)).trans ?_
    rfl
  · refine (R_pure0 (ins := .iload_n 2) (len := 1) (loc' := [.ref 2, .int x1, .int y]) (st' := [.int y]) (by decide +kernel) (fun _ => rfl)).trans ?_
    exact R_ireturn (by decide +kernel) (by decide +kernel)
theorem s123_26 {L : Nat} {mi : Nat → Nat → Int32} {ml : Nat → Nat → Int64} {d : Nat} {Q : Option Value → xM → Prop} {x1 x2 : Int32} : X 123 26 [.ref 2, .int x1, .int x2] [] (SH L, mi, ml, MR) (d + 1) Q =
    Xm 69 [.ref 51] (SH L, mi, ml, MR) d (fun v μ' => X 123 37 [.ref 2, .int x1, .int x2] (v.toList ++ [.ref 65]) μ' (d + 1) Q) := by
  refine (R_pure0 (ins := .aload_n 0) (len := 1) (loc' := [.ref 2, .int x1, .int x2]) (st' := [.ref 2]) (by decide +kernel) (fun _ => rfl)).trans ?_
  refine (R_gr (i := 66) (ci := 9) (k := 8) (n := 12) (b := 65) (by decide +kernel) (by decide +kernel) (by decide) rfl (SH_ref (by decide +kernel))).trans ?_
  refine (R_pure0 (ins := .aload_n 0) (len := 1) (loc' := [.ref 2, .int x1, .int x2]) (st' := [.ref 2, .ref 65]) (by decide +kernel) (fun _ => rfl)).trans ?_
  refine (R_gr (i := 52) (ci := 9) (k := 6) (n := 12) (b := 51) (by decide +kernel) (by decide +kernel) (by decide) rfl (SH_ref (by decide +kernel))).trans ?_
  refine (R_virt (i := 240) (f := 69) (kd := 0) (na := 0) (ml := 1) (ci := 6) (n := 12) (b := 51) (As := []) (rest := [.ref 65]) (by decide +kernel) (by decide +kernel) (by decide) (by decide +kernel) rfl (by decide +kernel) rfl rfl (by decide +kernel) (Nat.le_of_ble_eq_true rfl)).trans ?_
  rfl
theorem s123_37 {L : Nat} {mi : Nat → Nat → Int32} {ml : Nat → Nat → Int64} {d : Nat} {Q : Option Value → xM → Prop} {x1 x2 y : Int32} : X 123 37 [.ref 2, .int x1, .int x2] [.int y, .ref 65] (SH L, mi, ml, MR) (d + 1) Q =
    Xm 1 [.ref 65, .long y.toInt64, .long 1] (SH L, mi, ml, MR) d (fun v μ' => X 123 42 [.ref 2, .int x1, .int x2] (v.toList ++ []) μ' (d + 1) Q) := by
  refine (R_pure0 (ins := .i2l) (len := 1) (loc' := [.ref 2, .int x1, .int x2]) (st' := [.long y.toInt64, .ref 65]) (by decide +kernel) (fun _ => rfl)).trans ?_
  refine (R_lconst (n := 1) (v := 1) (by decide +kernel) (by decide +kernel)).trans ?_
  refine (R_virt (i := 243) (f := 1) (kd := 0) (na := 2) (ml := 12) (ci := 0) (n := 3) (b := 65) (As := [.long y.toInt64, .long 1]) (rest := []) (by decide +kernel) (by decide +kernel) (by decide) (by decide +kernel) rfl (by decide +kernel) rfl rfl (by decide +kernel) (Nat.le_of_ble_eq_true rfl)).trans ?_
  rfl
theorem s123_42 {L : Nat} {mi : Nat → Nat → Int32} {ml : Nat → Nat → Int64} {d : Nat} {Q : Option Value → xM → Prop} {x1 x2 : Int32} : X 123 42 [.ref 2, .int x1, .int x2] [] (SH L, mi, ml, MR) (d + 1) Q =
    Xm 70 [.ref 51] (SH L, mi, ml, MR) d (fun v μ' => X 123 50 [.ref 2, .int x1, .int x2] (v.toList ++ [.ref 2]) μ' (d + 1) Q) := by
  refine (R_pure0 (ins := .aload_n 0) (len := 1) (loc' := [.ref 2, .int x1, .int x2]) (st' := [.ref 2]) (by decide +kernel) (fun _ => rfl)).trans ?_
  refine (R_pure0 (ins := .aload_n 0) (len := 1) (loc' := [.ref 2, .int x1, .int x2]) (st' := [.ref 2, .ref 2]) (by decide +kernel) (fun _ => rfl)).trans ?_
  refine (R_gr (i := 52) (ci := 9) (k := 6) (n := 12) (b := 51) (by decide +kernel) (by decide +kernel) (by decide) rfl (SH_ref (by decide +kernel))).trans ?_
  refine (R_virt (i := 247) (f := 70) (kd := 0) (na := 0) (ml := 1) (ci := 6) (n := 12) (b := 51) (As := []) (rest := [.ref 2]) (by decide +kernel) (by decide +kernel) (by decide) (by decide +kernel) rfl (by decide +kernel) rfl rfl (by decide +kernel) (Nat.le_of_ble_eq_true rfl)).trans ?_
  rfl
theorem s123_50 {L : Nat} {mi : Nat → Nat → Int32} {ml : Nat → Nat → Int64} {d : Nat} {Q : Option Value → xM → Prop} {x1 x2 y : Int32} : X 123 50 [.ref 2, .int x1, .int x2] [.int y, .ref 2] (SH L, mi, ml, MR) d Q =
    Q (some (.int 1)) (SH L, (xw mi 2 11 y), ml, MR) := by
  refine (R_pi (i := 78) (ci := 9) (k := 11) (n := 12) (by decide +kernel) (by decide +kernel) (by decide) rfl).trans ?_
  refine (R_iconst (n := 1) (v := 1) (by decide +kernel) (by decide +kernel)).trans ?_
  exact R_ireturn (by decide +kernel) (by decide +kernel)
theorem s124 {L : Nat} {mi : Nat → Nat → Int32} {ml : Nat → Nat → Int64} {d : Nat} {Q : Option Value → xM → Prop} {x1 : Int32} : Xm 124 [.ref 2, .int x1] (SH L, mi, ml, MR) (d + 1) Q =
    Xm 82 [.ref 3, .int x1] (SH L, mi, ml, MR) d (fun v μ' => X 124 9 [.ref 2, .int x1, xmk] (v.toList ++ [.ref 2]) μ' (d + 1) Q) := by
  rw [Xm_ent (n := 3) (loc := [.ref 2, .int x1, xmk]) (by decide +kernel) rfl]
  refine (R_pure0 (ins := .aload_n 0) (len := 1) (loc' := [.ref 2, .int x1, xmk]) (st' := [.ref 2]) (by decide +kernel) (fun _ => rfl)).trans ?_
  refine (R_pure0 (ins := .aload_n 0) (len := 1) (loc' := [.ref 2, .int x1, xmk]) (st' := [.ref 2, .ref 2]) (by decide +kernel) (fun _ => rfl)).trans ?_
  refine (R_gr (i := 14) (ci := 9) (k := 0) (n := 12) (b := 3) (by decide +kernel) (by decide +kernel) (by decide) rfl (SH_ref (by decide +kernel))).trans ?_
  refine (R_pure0 (ins := .iload_n 1) (len := 1) (loc' := [.ref 2, .int x1, xmk]) (st' := [.int x1, .ref 3, .ref 2]) (by decide +kernel) (fun _ => rfl)).trans ?_
  refine (R_virt (i := 81) (f := 82) (kd := 0) (na := 1) (ml := 2) (ci := 7) (n := 1) (b := 3) (As := [.int x1]) (rest := [.ref 2]) (by decide +kernel) (by decide +kernel) (by decide) (by decide +kernel) rfl (by decide +kernel) rfl rfl (by decide +kernel) (Nat.le_of_ble_eq_true rfl)).trans ?_
  rfl
theorem s124_9 {L : Nat} {mi : Nat → Nat → Int32} {ml : Nat → Nat → Int64} {d : Nat} {Q : Option Value → xM → Prop} {x1 : Int32} {ry : Nat} {n_ry : Nat} (hS_ry : isStrip L ry n_ry) : X 124 9 [.ref 2, .int x1, xmk] [.ref ry, .ref 2] (SH L, mi, ml, MR) (d + 1) Q =
    Xm 146 [.ref 2, .ref ry] (SH L, mi, ml, MR) d (fun v μ' => X 124 12 [.ref 2, .int x1, xmk] (v.toList ++ []) μ' (d + 1) Q) := by
  refine (R_virt (i := 228) (f := 146) (kd := 0) (na := 1) (ml := 3) (ci := 9) (n := 12) (b := 2) (As := [.ref ry]) (rest := []) (by decide +kernel) (by decide +kernel) (by decide) (by decide +kernel) rfl (by decide +kernel) rfl rfl (by decide +kernel) (Nat.le_of_ble_eq_true rfl)).trans ?_
  rfl
theorem s124_9n {L : Nat} {mi : Nat → Nat → Int32} {ml : Nat → Nat → Int64} {d : Nat} {Q : Option Value → xM → Prop} {x1 : Int32} : X 124 9 [.ref 2, .int x1, xmk] [.null, .ref 2] (SH L, mi, ml, MR) (d + 1) Q =
    Xm 146 [.ref 2, .null] (SH L, mi, ml, MR) d (fun v μ' => X 124 12 [.ref 2, .int x1, xmk] (v.toList ++ []) μ' (d + 1) Q) := by
  refine (R_virt (i := 228) (f := 146) (kd := 0) (na := 1) (ml := 3) (ci := 9) (n := 12) (b := 2) (As := [.null]) (rest := []) (by decide +kernel) (by decide +kernel) (by decide) (by decide +kernel) rfl (by decide +kernel) rfl rfl (by decide +kernel) (Nat.le_of_ble_eq_true rfl)).trans ?_
  rfl
theorem s124_12 {L : Nat} {mi : Nat → Nat → Int32} {ml : Nat → Nat → Int64} {d : Nat} {Q : Option Value → xM → Prop} {x1 y : Int32} : X 124 12 [.ref 2, .int x1, xmk] [.int y] (SH L, mi, ml, MR) (d + 1) Q =
    if (y = 0) then (Xm 75 [.ref 51] (SH L, mi, ml, MR) d (fun v μ' => X 124 26 [.ref 2, .int x1, .int y] (v.toList ++ []) μ' (d + 1) Q)) else (Q (some (.int y)) (SH L, mi, ml, MR)) := by
  refine (R_pure0 (ins := .istore_n 2) (len := 1) (loc' := [.ref 2, .int x1, .int y]) (st' := []) (by decide +kernel) (fun _ => rfl)).trans ?_
  refine (R_pure0 (ins := .iload_n 2) (len := 1) (loc' := [.ref 2, .int x1, .int y]) (st' := [.int y]) (by decide +kernel) (fun _ => rfl)).trans ?_
  refine (R_if_eq (off := 5) (t := 19) (by decide +kernel) (by decide +kernel)).trans (ite_congr rfl (fun c0 => ?_) (fun c0 => ?_))
  · refine (R_pure0 (ins := .aload_n 0) (len := 1) (loc' := [.ref 2, .int x1, .int y]) (st' := [.ref 2]) (by decide +kernel) (fun _ => rfl)).trans ?_
    refine (R_gr (i := 52) (ci := 9) (k := 6) (n := 12) (b := 51) (by decide +kernel) (by decide +kernel) (by decide) rfl (SH_ref (by decide +kernel))).trans ?_
    refine (R_virt (i := 237) (f := 75) (kd := 0) (na := 0) (ml := 1) (ci := 6) (n := 12) (b := 51) (As := []) (rest := []) (by decide +kernel) (by decide +kernel) (by decide) (by decide +kernel) rfl (by decide +kernel) rfl rfl (by decide +kernel) (Nat.le_of_ble_eq_true rfl)).trans ?_
    rfl
  · refine (R_pure0 (ins := .iload_n 2) (len := 1) (loc' := [.ref 2, .int x1, .int y]) (st' := [.int y]) (by decide +kernel) (fun _ => rfl)).trans ?_
    exact R_ireturn (by decide +kernel) (by decide +kernel)
theorem s124_26 {L : Nat} {mi : Nat → Nat → Int32} {ml : Nat → Nat → Int64} {d : Nat} {Q : Option Value → xM → Prop} {x1 x2 : Int32} : X 124 26 [.ref 2, .int x1, .int x2] [] (SH L, mi, ml, MR) (d + 1) Q =
    Xm 69 [.ref 51] (SH L, mi, ml, MR) d (fun v μ' => X 124 33 [.ref 2, .int x1, .int x2] (v.toList ++ []) μ' (d + 1) Q) := by
  refine (R_pure0 (ins := .aload_n 0) (len := 1) (loc' := [.ref 2, .int x1, .int x2]) (st' := [.ref 2]) (by decide +kernel) (fun _ => rfl)).trans ?_
  refine (R_gr (i := 52) (ci := 9) (k := 6) (n := 12) (b := 51) (by decide +kernel) (by decide +kernel) (by decide) rfl (SH_ref (by decide +kernel))).trans ?_
  refine (R_virt (i := 240) (f := 69) (kd := 0) (na := 0) (ml := 1) (ci := 6) (n := 12) (b := 51) (As := []) (rest := []) (by decide +kernel) (by decide +kernel) (by decide) (by decide +kernel) rfl (by decide +kernel) rfl rfl (by decide +kernel) (Nat.le_of_ble_eq_true rfl)).trans ?_
  rfl
theorem s124_33 {L : Nat} {mi : Nat → Nat → Int32} {ml : Nat → Nat → Int64} {d : Nat} {Q : Option Value → xM → Prop} {x1 x2 y : Int32} : X 124 33 [.ref 2, .int x1, .int x2] [.int y] (SH L, mi, ml, MR) (d + 1) Q =
    if (y = 0) then (Xm 141 [.ref 2, .int 4] (SH L, mi, ml, MR) d (fun v μ' => X 124 41 [.ref 2, .int x1, .int x2] (v.toList ++ []) μ' (d + 1) Q)) else (Xm 72 [.ref 51] (SH L, mi, ml, MR) d (fun v μ' => X 124 50 [.ref 2, .int x1, .int x2] (v.toList ++ [.ref 2]) μ' (d + 1) Q)) := by
  refine (R_if_ne (off := 9) (t := 42) (by decide +kernel) (by decide +kernel)).trans (ite_congr rfl (fun c0 => ?_) (fun c0 => ?_))
  · refine (R_pure0 (ins := .aload_n 0) (len := 1) (loc' := [.ref 2, .int x1, .int x2]) (st' := [.ref 2]) (by decide +kernel) (fun _ => rfl)).trans ?_
    refine (R_iconst (n := 4) (v := 4) (by decide +kernel) (by decide +kernel)).trans ?_
    refine (R_virt (i := 106) (f := 141) (kd := 0) (na := 1) (ml := 2) (ci := 9) (n := 12) (b := 2) (As := [.int 4]) (rest := []) (by decide +kernel) (by decide +kernel) (by decide) (by decide +kernel) rfl (by decide +kernel) rfl rfl (by decide +kernel) (Nat.le_of_ble_eq_true rfl)).trans ?_
    rfl
  · refine (R_pure0 (ins := .aload_n 0) (len := 1) (loc' := [.ref 2, .int x1, .int x2]) (st' := [.ref 2]) (by decide +kernel) (fun _ => rfl)).trans ?_
    refine (R_pure0 (ins := .aload_n 0) (len := 1) (loc' := [.ref 2, .int x1, .int x2]) (st' := [.ref 2, .ref 2]) (by decide +kernel) (fun _ => rfl)).trans ?_
    refine (R_gr (i := 52) (ci := 9) (k := 6) (n := 12) (b := 51) (by decide +kernel) (by decide +kernel) (by decide) rfl (SH_ref (by decide +kernel))).trans ?_
    refine (R_virt (i := 250) (f := 72) (kd := 0) (na := 0) (ml := 1) (ci := 6) (n := 12) (b := 51) (As := []) (rest := [.ref 2]) (by decide +kernel) (by decide +kernel) (by decide) (by decide +kernel) rfl (by decide +kernel) rfl rfl (by decide +kernel) (Nat.le_of_ble_eq_true rfl)).trans ?_
    rfl
theorem s124_41 {L : Nat} {mi : Nat → Nat → Int32} {ml : Nat → Nat → Int64} {d : Nat} {Q : Option Value → xM → Prop} {x1 x2 y : Int32} : X 124 41 [.ref 2, .int x1, .int x2] [.int y] (SH L, mi, ml, MR) d Q =
    Q (some (.int y)) (SH L, mi, ml, MR) := by
  exact R_ireturn (by decide +kernel) (by decide +kernel)
theorem s124_50 {L : Nat} {mi : Nat → Nat → Int32} {ml : Nat → Nat → Int64} {d : Nat} {Q : Option Value → xM → Prop} {x1 x2 y : Int32} : X 124 50 [.ref 2, .int x1, .int x2] [.int y, .ref 2] (SH L, mi, ml, MR) (d + 1) Q =
    Xm 29 [.ref 38] (SH L, (xw mi 2 11 y), ml, MR) d (fun v μ' => X 124 60 [.ref 2, .int x1, .int x2] (v.toList ++ []) μ' (d + 1) Q) := by
  refine (R_pi (i := 78) (ci := 9) (k := 11) (n := 12) (by decide +kernel) (by decide +kernel) (by decide) rfl).trans ?_
  refine (R_pure0 (ins := .aload_n 0) (len := 1) (loc' := [.ref 2, .int x1, .int x2]) (st' := [.ref 2]) (by decide +kernel) (fun _ => rfl)).trans ?_
  refine (R_gr (i := 34) (ci := 9) (k := 4) (n := 12) (b := 38) (by decide +kernel) (by decide +kernel) (by decide) rfl (SH_ref (by decide +kernel))).trans ?_
  refine (R_virt (i := 253) (f := 29) (kd := 0) (na := 0) (ml := 1) (ci := 2) (n := 5) (b := 38) (As := []) (rest := []) (by decide +kernel) (by decide +kernel) (by decide) (by decide +kernel) rfl (by decide +kernel) rfl rfl (by decide +kernel) (Nat.le_of_ble_eq_true rfl)).trans ?_
  rfl
theorem s124_60 {L : Nat} {mi : Nat → Nat → Int32} {ml : Nat → Nat → Int64} {d : Nat} {Q : Option Value → xM → Prop} {x1 x2 y : Int32} : X 124 60 [.ref 2, .int x1, .int x2] [.int y] (SH L, mi, ml, MR) (d + 1) Q =
    Xm 71 [.ref 51] (SH L, mi, ml, MR) d (fun v μ' => X 124 67 [.ref 2, .int x1, .int x2] (v.toList ++ [.int y]) μ' (d + 1) Q) := by
  refine (R_pure0 (ins := .aload_n 0) (len := 1) (loc' := [.ref 2, .int x1, .int x2]) (st' := [.ref 2, .int y]) (by decide +kernel) (fun _ => rfl)).trans ?_
  refine (R_gr (i := 52) (ci := 9) (k := 6) (n := 12) (b := 51) (by decide +kernel) (by decide +kernel) (by decide) rfl (SH_ref (by decide +kernel))).trans ?_
  refine (R_virt (i := 256) (f := 71) (kd := 0) (na := 0) (ml := 1) (ci := 6) (n := 12) (b := 51) (As := []) (rest := [.int y]) (by decide +kernel) (by decide +kernel) (by decide) (by decide +kernel) rfl (by decide +kernel) rfl rfl (by decide +kernel) (Nat.le_of_ble_eq_true rfl)).trans ?_
  rfl
theorem s124_67 {L : Nat} {mi : Nat → Nat → Int32} {ml : Nat → Nat → Int64} {d : Nat} {Q : Option Value → xM → Prop} {x1 x2 y z0 : Int32} : X 124 67 [.ref 2, .int x1, .int x2] [.int y, .int z0] (SH L, mi, ml, MR) d Q =
    Q (some (.int (z0 &&& (y ^^^ (-1))))) (SH L, mi, ml, MR) := by
  refine (R_iconst (n := (-1)) (v := (-1)) (by decide +kernel) (by decide +kernel)).trans ?_
  refine (R_pure0 (ins := .ixor) (len := 1) (loc' := [.ref 2, .int x1, .int x2]) (st' := [.int (y ^^^ (-1)), .int z0]) (by decide +kernel) (fun _ => rfl)).trans ?_
  refine (R_pure0 (ins := .iand) (len := 1) (loc' := [.ref 2, .int x1, .int x2]) (st' := [.int (z0 &&& (y ^^^ (-1)))]) (by decide +kernel) (fun _ => rfl)).trans ?_
  exact R_ireturn (by decide +kernel) (by decide +kernel)
theorem s125 {L : Nat} {mi : Nat → Nat → Int32} {ml : Nat → Nat → Int64} {d : Nat} {Q : Option Value → xM → Prop} {x1 : Int32} : Xm 125 [.ref 2, .int x1] (SH L, mi, ml, MR) (d + 1) Q =
    Xm 143 [.int x1] (SH L, mi, ml, MR) d (fun v μ' => X 125 4 [.ref 2, .int x1, xmk, xmk, xmk, xmk, xmk] (v.toList ++ []) μ' (d + 1) Q) := by
  rw [Xm_ent (n := 7) (loc := [.ref 2, .int x1, xmk, xmk, xmk, xmk, xmk]) (by decide +kernel) rfl]
  refine (R_pure0 (ins := .iload_n 1) (len := 1) (loc' := [.ref 2, .int x1, xmk, xmk, xmk, xmk, xmk]) (st' := [.int x1]) (by decide +kernel) (fun _ => rfl)).trans ?_
  refine (R_static (i := 259) (f := 143) (kd := 2) (na := 1) (ml := 1) (As := [.int x1]) (rest := []) (by decide +kernel) (by decide +kernel) (by decide) (by decide +kernel) rfl rfl (by decide +kernel) (Nat.le_of_ble_eq_true rfl)).trans ?_
  rfl
theorem s125_4 {L : Nat} {mi : Nat → Nat → Int32} {ml : Nat → Nat → Int64} {d : Nat} {Q : Option Value → xM → Prop} {x1 y : Int32} : X 125 4 [.ref 2, .int x1, xmk, xmk, xmk, xmk, xmk] [.int y] (SH L, mi, ml, MR) (d + 1) Q =
    if (y = 0) then (Q (some (.int (-1))) (SH L, mi, ml, MR)) else (Xm 17 [.ref 38] (SH L, mi, ml, MR) d (fun v μ' => X 125 16 [.ref 2, .int x1, xmk, xmk, xmk, xmk, xmk] (v.toList ++ []) μ' (d + 1) Q)) := by
  refine (R_if_ne (off := 5) (t := 9) (by decide +kernel) (by decide +kernel)).trans (ite_congr rfl (fun c0 => ?_) (fun c0 => ?_))
  · refine (R_iconst (n := (-1)) (v := (-1)) (by decide +kernel) (by decide +kernel)).trans ?_
    exact R_ireturn (by decide +kernel) (by decide +kernel)
  · refine (R_pure0 (ins := .aload_n 0) (len := 1) (loc' := [.ref 2, .int x1, xmk, xmk, xmk, xmk, xmk]) (st' := [.ref 2]) (by decide +kernel) (fun _ => rfl)).trans ?_
    refine (R_gr (i := 34) (ci := 9) (k := 4) (n := 12) (b := 38) (by decide +kernel) (by decide +kernel) (by decide) rfl (SH_ref (by decide +kernel))).trans ?_
    refine (R_virt (i := 167) (f := 17) (kd := 0) (na := 0) (ml := 1) (ci := 2) (n := 5) (b := 38) (As := []) (rest := []) (by decide +kernel) (by decide +kernel) (by decide) (by decide +kernel) rfl (by decide +kernel) rfl rfl (by decide +kernel) (Nat.le_of_ble_eq_true rfl)).trans ?_
    rfl
theorem s125_16 {L : Nat} {mi : Nat → Nat → Int32} {ml : Nat → Nat → Int64} {d : Nat} {Q : Option Value → xM → Prop} {x1 y : Int32} : X 125 16 [.ref 2, .int x1, xmk, xmk, xmk, xmk, xmk] [.int y] (SH L, mi, ml, MR) d Q =
    if (y = 0) then (X 125 29 [.ref 2, .int x1, .int 0, .int 0, .int 0, xmk, xmk] [] (SH L, mi, ml, MR) d Q) else (Q (some (.int (-4))) (SH L, mi, ml, MR)) := by
  refine (R_if_eq (off := 6) (t := 22) (by decide +kernel) (by decide +kernel)).trans (ite_congr rfl (fun c0 => ?_) (fun c0 => ?_))
  · refine (R_iconst (n := 0) (v := 0) (by decide +kernel) (by decide +kernel)).trans ?_
    refine (R_pure0 (ins := .istore_n 2) (len := 1) (loc' := [.ref 2, .int x1, .int 0, xmk, xmk, xmk, xmk]) (st' := []) (by decide +kernel) (fun _ => rfl)).trans ?_
    refine (R_iconst (n := 0) (v := 0) (by decide +kernel) (by decide +kernel)).trans ?_
    refine (R_pure0 (ins := .istore_n 3) (len := 1) (loc' := [.ref 2, .int x1, .int 0, .int 0, xmk, xmk, xmk]) (st' := []) (by decide +kernel) (fun _ => rfl)).trans ?_
    refine (R_iconst (n := 0) (v := 0) (by decide +kernel) (by decide +kernel)).trans ?_
    refine (R_pure0 (ins := .istore 4) (len := 2) (loc' := [.ref 2, .int x1, .int 0, .int 0, .int 0, xmk, xmk]) (st' := []) (by decide +kernel) (fun _ => rfl)).trans ?_
    rfl
  · refine (R_bipush (n := (-4)) (v := (-4)) (by decide +kernel) (by decide +kernel)).trans ?_
    exact R_ireturn (by decide +kernel) (by decide +kernel)
theorem s125_29 {L : Nat} {mi : Nat → Nat → Int32} {ml : Nat → Nat → Int64} {d : Nat} {Q : Option Value → xM → Prop} {x1 x2 x3 x4 : Int32} : X 125 29 [.ref 2, .int x1, .int x2, .int x3, .int x4, xmk, xmk] [] (SH L, mi, ml, MR) (d + 1) Q =
    Xm 16 [.ref 38] (SH L, mi, ml, MR) d (fun v μ' => X 125 38 [.ref 2, .int x1, .int x2, .int x3, .int x4, xmk, xmk] (v.toList ++ [.int x4]) μ' (d + 1) Q) := by
  refine (R_pure0 (ins := .iload 4) (len := 2) (loc' := [.ref 2, .int x1, .int x2, .int x3, .int x4, xmk, xmk]) (st' := [.int x4]) (by decide +kernel) (fun _ => rfl)).trans ?_
  refine (R_pure0 (ins := .aload_n 0) (len := 1) (loc' := [.ref 2, .int x1, .int x2, .int x3, .int x4, xmk, xmk]) (st' := [.ref 2, .int x4]) (by decide +kernel) (fun _ => rfl)).trans ?_
  refine (R_gr (i := 34) (ci := 9) (k := 4) (n := 12) (b := 38) (by decide +kernel) (by decide +kernel) (by decide) rfl (SH_ref (by decide +kernel))).trans ?_
  refine (R_virt (i := 135) (f := 16) (kd := 0) (na := 0) (ml := 1) (ci := 2) (n := 5) (b := 38) (As := []) (rest := [.int x4]) (by decide +kernel) (by decide +kernel) (by decide) (by decide +kernel) rfl (by decide +kernel) rfl rfl (by decide +kernel) (Nat.le_of_ble_eq_true rfl)).trans ?_
  rfl
theorem s125_38 {L : Nat} {mi : Nat → Nat → Int32} {ml : Nat → Nat → Int64} {d : Nat} {Q : Option Value → xM → Prop} {x1 x2 x3 x4 y z0 : Int32} : X 125 38 [.ref 2, .int x1, .int x2, .int x3, .int x4, xmk, xmk] [.int y, .int z0] (SH L, mi, ml, MR) (d + 1) Q =
    if (z0 < y) then (Xm 15 [.ref 38, .int x4] (SH L, mi, ml, MR) d (fun v μ' => X 125 50 [.ref 2, .int x1, .int x2, .int x3, .int x4, xmk, xmk] (v.toList ++ []) μ' (d + 1) Q)) else (Q (some (.int x2)) (SH L, (xw mi 2 11 x3), ml, MR)) := by
  refine (R_icmp_ge (off := 62) (t := 100) (by decide +kernel) (by decide +kernel)).trans (ite_congr rfl (fun c0 => ?_) (fun c0 => ?_))
  · refine (R_pure0 (ins := .aload_n 0) (len := 1) (loc' := [.ref 2, .int x1, .int x2, .int x3, .int x4, xmk, xmk]) (st' := [.ref 2]) (by decide +kernel) (fun _ => rfl)).trans ?_
    refine (R_gr (i := 34) (ci := 9) (k := 4) (n := 12) (b := 38) (by decide +kernel) (by decide +kernel) (by decide) rfl (SH_ref (by decide +kernel))).trans ?_
    refine (R_pure0 (ins := .iload 4) (len := 2) (loc' := [.ref 2, .int x1, .int x2, .int x3, .int x4, xmk, xmk]) (st' := [.int x4, .ref 38]) (by decide +kernel) (fun _ => rfl)).trans ?_
    refine (R_virt (i := 136) (f := 15) (kd := 0) (na := 1) (ml := 2) (ci := 2) (n := 5) (b := 38) (As := [.int x4]) (rest := []) (by decide +kernel) (by decide +kernel) (by decide) (by decide +kernel) rfl (by decide +kernel) rfl rfl (by decide +kernel) (Nat.le_of_ble_eq_true rfl)).trans ?_
    rfl
  · refine (R_pure0 (ins := .aload_n 0) (len := 1) (loc' := [.ref 2, .int x1, .int x2, .int x3, .int x4, xmk, xmk]) (st' := [.ref 2]) (by decide +kernel) (fun _ => rfl)).trans ?_
    refine (R_pure0 (ins := .iload_n 3) (len := 1) (loc' := [.ref 2, .int x1, .int x2, .int x3, .int x4, xmk, xmk]) (st' := [.int x3, .ref 2]) (by decide +kernel) (fun _ => rfl)).trans ?_
    refine (R_pi (i := 78) (ci := 9) (k := 11) (n := 12) (by decide +kernel) (by decide +kernel) (by decide) rfl).trans ?_
    refine (R_pure0 (ins := .iload_n 2) (len := 1) (loc' := [.ref 2, .int x1, .int x2, .int x3, .int x4, xmk, xmk]) (st' := [.int x2]) (by decide +kernel) (fun _ => rfl)).trans ?_
    exact R_ireturn (by decide +kernel) (by decide +kernel)
theorem s125_50 {L : Nat} {mi : Nat → Nat → Int32} {ml : Nat → Nat → Int64} {d : Nat} {Q : Option Value → xM → Prop} {x1 x2 x3 x4 : Int32} {ry : Nat} (hS_ry : (SH L)[ry]? = some (4, 7)) : X 125 50 [.ref 2, .int x1, .int x2, .int x3, .int x4, xmk, xmk] [.ref ry] (SH L, mi, ml, MR) (d + 1) Q =
    Xm 18 [.ref 38] (SH L, mi, ml, MR) d (fun v μ' => X 125 71 [.ref 2, .int x1, .int x2, .int x3, .int x4, .ref ry, xmk] (v.toList ++ [.int x1, .ref ry]) μ' (d + 1) Q) := by
  refine (R_pure0 (ins := .astore 5) (len := 2) (loc' := [.ref 2, .int x1, .int x2, .int x3, .int x4, .ref ry, xmk]) (st' := []) (by decide +kernel) (fun _ => rfl)).trans ?_
  refine (R_pure0 (ins := .aload 5) (len := 2) (loc' := [.ref 2, .int x1, .int x2, .int x3, .int x4, .ref ry, xmk]) (st' := [.ref ry]) (by decide +kernel) (fun _ => rfl)).trans ?_
  refine (R_ifnonnull_r (off := 7) (t := 61) (by decide +kernel) (by decide +kernel)).trans ?_
  refine (R_pure0 (ins := .aload 5) (len := 2) (loc' := [.ref 2, .int x1, .int x2, .int x3, .int x4, .ref ry, xmk]) (st' := [.ref ry]) (by decide +kernel) (fun _ => rfl)).trans ?_
  refine (R_pure0 (ins := .iload_n 1) (len := 1) (loc' := [.ref 2, .int x1, .int x2, .int x3, .int x4, .ref ry, xmk]) (st' := [.int x1, .ref ry]) (by decide +kernel) (fun _ => rfl)).trans ?_
  refine (R_pure0 (ins := .aload_n 0) (len := 1) (loc' := [.ref 2, .int x1, .int x2, .int x3, .int x4, .ref ry, xmk]) (st' := [.ref 2, .int x1, .ref ry]) (by decide +kernel) (fun _ => rfl)).trans ?_
  refine (R_gr (i := 34) (ci := 9) (k := 4) (n := 12) (b := 38) (by decide +kernel) (by decide +kernel) (by decide) rfl (SH_ref (by decide +kernel))).trans ?_
  refine (R_virt (i := 140) (f := 18) (kd := 0) (na := 0) (ml := 1) (ci := 2) (n := 5) (b := 38) (As := []) (rest := [.int x1, .ref ry]) (by decide +kernel) (by decide +kernel) (by decide) (by decide +kernel) rfl (by decide +kernel) rfl rfl (by decide +kernel) (Nat.le_of_ble_eq_true rfl)).trans ?_
  rfl
theorem s125_50n {L : Nat} {mi : Nat → Nat → Int32} {ml : Nat → Nat → Int64} {d : Nat} {Q : Option Value → xM → Prop} {x1 x2 x3 x4 : Int32} : X 125 50 [.ref 2, .int x1, .int x2, .int x3, .int x4, xmk, xmk] [.null] (SH L, mi, ml, MR) d Q =
    X 125 29 [.ref 2, .int x1, .int (x2 + 0), .int (x3 + 0), .int (x4 + 1), .null, .int 0] [] (SH L, mi, ml, MR) d Q := by
  refine (R_pure0 (ins := .astore 5) (len := 2) (loc' := [.ref 2, .int x1, .int x2, .int x3, .int x4, .null, xmk]) (st' := []) (by decide +kernel) (fun _ => rfl)).trans ?_
  refine (R_pure0 (ins := .aload 5) (len := 2) (loc' := [.ref 2, .int x1, .int x2, .int x3, .int x4, .null, xmk]) (st' := [.null]) (by decide +kernel) (fun _ => rfl)).trans ?_
  refine (R_ifnonnull_n (off := 7) (by decide +kernel)).trans ?_
  refine (R_iconst (n := 0) (v := 0) (by decide +kernel) (by decide +kernel)).trans ?_
  refine (R_goto (off := 16) (t := 74) (by decide +kernel) (by decide +kernel)).trans ?_
  refine (R_pure0 (ins := .istore 6) (len := 2) (loc' := [.ref 2, .int x1, .int x2, .int x3, .int x4, .null, .int 0]) (st' := []) (by decide +kernel) (fun _ => rfl)).trans ?_
  refine (R_pure0 (ins := .iload_n 2) (len := 1) (loc' := [.ref 2, .int x1, .int x2, .int x3, .int x4, .null, .int 0]) (st' := [.int x2]) (by decide +kernel) (fun _ => rfl)).trans ?_
  refine (R_pure0 (ins := .iload 6) (len := 2) (loc' := [.ref 2, .int x1, .int x2, .int x3, .int x4, .null, .int 0]) (st' := [.int 0, .int x2]) (by decide +kernel) (fun _ => rfl)).trans ?_
  refine (R_pure0 (ins := .iadd) (len := 1) (loc' := [.ref 2, .int x1, .int x2, .int x3, .int x4, .null, .int 0]) (st' := [.int (x2 + 0)]) (by decide +kernel) (fun _ => rfl)).trans ?_
  refine (R_pure0 (ins := .istore_n 2) (len := 1) (loc' := [.ref 2, .int x1, .int (x2 + 0), .int x3, .int x4, .null, .int 0]) (st' := []) (by decide +kernel) (fun _ => rfl)).trans ?_
  refine (R_pure0 (ins := .iload_n 3) (len := 1) (loc' := [.ref 2, .int x1, .int (x2 + 0), .int x3, .int x4, .null, .int 0]) (st' := [.int x3]) (by decide +kernel) (fun _ => rfl)).trans ?_
  refine (R_pure0 (ins := .iload 6) (len := 2) (loc' := [.ref 2, .int x1, .int (x2 + 0), .int x3, .int x4, .null, .int 0]) (st' := [.int 0, .int x3]) (by decide +kernel) (fun _ => rfl)).trans ?_
  refine (R_if_le (off := 7) (t := 91) (by decide +kernel) (by decide +kernel)).trans ((if_neg (by decide)).trans ?_)
  refine (R_iconst (n := 0) (v := 0) (by decide +kernel) (by decide +kernel)).trans ?_
  refine (R_pure0 (ins := .iadd) (len := 1) (loc' := [.ref 2, .int x1, .int (x2 + 0), .int x3, .int x4, .null, .int 0]) (st' := [.int (x3 + 0)]) (by decide +kernel) (fun _ => rfl)).trans ?_
  refine (R_pure0 (ins := .istore_n 3) (len := 1) (loc' := [.ref 2, .int x1, .int (x2 + 0), .int (x3 + 0), .int x4, .null, .int 0]) (st' := []) (by decide +kernel) (fun _ => rfl)).trans ?_
  refine (R_iinc (k := 4) (n := 1) (x := x4) (v := (x4 + 1)) (loc' := [.ref 2, .int x1, .int (x2 + 0), .int (x3 + 0), .int (x4 + 1), .null, .int 0]) (by decide +kernel) rfl rfl rfl).trans ?_
  refine (R_goto (off := (-68)) (t := 29) (by decide +kernel) (by decide +kernel)).trans ?_
  rfl
theorem s125_71 {L : Nat} {mi : Nat → Nat → Int32} {ml : Nat → Nat → Int64} {d : Nat} {Q : Option Value → xM → Prop} {x1 x2 x3 x4 y z0 : Int32} {r5 : Nat} (hS_r5 : (SH L)[r5]? = some (4, 7)) : X 125 71 [.ref 2, .int x1, .int x2, .int x3, .int x4, .ref r5, xmk] [.int y, .int z0, .ref r5] (SH L, mi, ml, MR) (d + 1) Q =
    Xm 58 [.ref r5, .int z0, .int y] (SH L, mi, ml, MR) d (fun v μ' => X 125 74 [.ref 2, .int x1, .int x2, .int x3, .int x4, .ref r5, xmk] (v.toList ++ []) μ' (d + 1) Q) := by
  refine (R_virt (i := 262) (f := 58) (kd := 0) (na := 2) (ml := 5) (ci := 4) (n := 7) (b := r5) (As := [.int z0, .int y]) (rest := []) (by decide +kernel) (by decide +kernel) (by decide) (by decide +kernel) rfl (by decide +kernel) hS_r5 rfl (by decide +kernel) (Nat.le_of_ble_eq_true rfl)).trans ?_
  rfl
theorem s125_29v2 {L : Nat} {mi : Nat → Nat → Int32} {ml : Nat → Nat → Int64} {d : Nat} {Q : Option Value → xM → Prop} {x1 x2 x3 x4 x6 : Int32} : X 125 29 [.ref 2, .int x1, .int x2, .int x3, .int x4, .null, .int x6] [] (SH L, mi, ml, MR) (d + 1) Q =
    Xm 16 [.ref 38] (SH L, mi, ml, MR) d (fun v μ' => X 125 38 [.ref 2, .int x1, .int x2, .int x3, .int x4, .null, .int x6] (v.toList ++ [.int x4]) μ' (d + 1) Q) := by
  refine (R_pure0 (ins := .iload 4) (len := 2) (loc' := [.ref 2, .int x1, .int x2, .int x3, .int x4, .null, .int x6]) (st' := [.int x4]) (by decide +kernel) (fun _ => rfl)).trans ?_
  refine (R_pure0 (ins := .aload_n 0) (len := 1) (loc' := [.ref 2, .int x1, .int x2, .int x3, .int x4, .null, .int x6]) (st' := [.ref 2, .int x4]) (by decide +kernel) (fun _ => rfl)).trans ?_
  refine (R_gr (i := 34) (ci := 9) (k := 4) (n := 12) (b := 38) (by decide +kernel) (by decide +kernel) (by decide) rfl (SH_ref (by decide +kernel))).trans ?_
  refine (R_virt (i := 135) (f := 16) (kd := 0) (na := 0) (ml := 1) (ci := 2) (n := 5) (b := 38) (As := []) (rest := [.int x4]) (by decide +kernel) (by decide +kernel) (by decide) (by decide +kernel) rfl (by decide +kernel) rfl rfl (by decide +kernel) (Nat.le_of_ble_eq_true rfl)).trans ?_
  rfl
theorem s125_74 {L : Nat} {mi : Nat → Nat → Int32} {ml : Nat → Nat → Int64} {d : Nat} {Q : Option Value → xM → Prop} {x1 x2 x3 x4 y : Int32} {r5 : Nat} (hS_r5 : (SH L)[r5]? = some (4, 7)) : X 125 74 [.ref 2, .int x1, .int x2, .int x3, .int x4, .ref r5, xmk] [.int y] (SH L, mi, ml, MR) d Q =
    if ((0 : Int32) < y) then (X 125 29 [.ref 2, .int x1, .int (x2 + y), .int (x3 + 1), .int (x4 + 1), .ref r5, .int y] [] (SH L, mi, ml, MR) d Q) else (X 125 29 [.ref 2, .int x1, .int (x2 + y), .int (x3 + 0), .int (x4 + 1), .ref r5, .int y] [] (SH L, mi, ml, MR) d Q) := by
  refine (R_pure0 (ins := .istore 6) (len := 2) (loc' := [.ref 2, .int x1, .int x2, .int x3, .int x4, .ref r5, .int y]) (st' := []) (by decide +kernel) (fun _ => rfl)).trans ?_
  refine (R_pure0 (ins := .iload_n 2) (len := 1) (loc' := [.ref 2, .int x1, .int x2, .int x3, .int x4, .ref r5, .int y]) (st' := [.int x2]) (by decide +kernel) (fun _ => rfl)).trans ?_
  refine (R_pure0 (ins := .iload 6) (len := 2) (loc' := [.ref 2, .int x1, .int x2, .int x3, .int x4, .ref r5, .int y]) (st' := [.int y, .int x2]) (by decide +kernel) (fun _ => rfl)).trans ?_
  refine (R_pure0 (ins := .iadd) (len := 1) (loc' := [.ref 2, .int x1, .int x2, .int x3, .int x4, .ref r5, .int y]) (st' := [.int (x2 + y)]) (by decide +kernel) (fun _ => rfl)).trans ?_
  refine (R_pure0 (ins := .istore_n 2) (len := 1) (loc' := [.ref 2, .int x1, .int (x2 + y), .int x3, .int x4, .ref r5, .int y]) (st' := []) (by decide +kernel) (fun _ => rfl)).trans ?_
  refine (R_pure0 (ins := .iload_n 3) (len := 1) (loc' := [.ref 2, .int x1, .int (x2 + y), .int x3, .int x4, .ref r5, .int y]) (st' := [.int x3]) (by decide +kernel) (fun _ => rfl)).trans ?_
  refine (R_pure0 (ins := .iload 6) (len := 2) (loc' := [.ref 2, .int x1, .int (x2 + y), .int x3, .int x4, .ref r5, .int y]) (st' := [.int y, .int x3]) (by decide +kernel) (fun _ => rfl)).trans ?_
  refine (R_if_le (off := 7) (t := 91) (by decide +kernel) (by decide +kernel)).trans (ite_congr rfl (fun c0 => ?_) (fun c0 => ?_))
  · refine (R_iconst (n := 1) (v := 1) (by decide +kernel) (by decide +kernel)).trans ?_
    refine (R_goto (off := 4) (t := 92) (by decide +kernel) (by decide +kernel)).trans ?_
    refine (R_pure0 (ins := .iadd) (len := 1) (loc' := [.ref 2, .int x1, .int (x2 + y), .int x3, .int x4, .ref r5, .int y]) (st' := [.int (x3 + 1)]) (by decide +kernel) (fun _ => rfl)).trans ?_
    refine (R_pure0 (ins := .istore_n 3) (len := 1) (loc' := [.ref 2, .int x1, .int (x2 + y), .int (x3 + 1), .int x4, .ref r5, .int y]) (st' := []) (by decide +kernel) (fun _ => rfl)).trans ?_
    refine (R_iinc (k := 4) (n := 1) (x := x4) (v := (x4 + 1)) (loc' := [.ref 2, .int x1, .int (x2 + y), .int (x3 + 1), .int (x4 + 1), .ref r5, .int y]) (by decide +kernel) rfl rfl rfl).trans ?_
    refine (R_goto (off := (-68)) (t := 29) (by decide +kernel) (by decide +kernel)).trans ?_
    rfl
  · refine (R_iconst (n := 0) (v := 0) (by decide +kernel) (by decide +kernel)).trans ?_
    refine (R_pure0 (ins := .iadd) (len := 1) (loc' := [.ref 2, .int x1, .int (x2 + y), .int x3, .int x4, .ref r5, .int y]) (st' := [.int (x3 + 0)]) (by decide +kernel) (fun _ => rfl)).trans ?_
    refine (R_pure0 (ins := .istore_n 3) (len := 1) (loc' := [.ref 2, .int x1, .int (x2 + y), .int (x3 + 0), .int x4, .ref r5, .int y]) (st' := []) (by decide +kernel) (fun _ => rfl)).trans ?_
    refine (R_iinc (k := 4) (n := 1) (x := x4) (v := (x4 + 1)) (loc' := [.ref 2, .int x1, .int (x2 + y), .int (x3 + 0), .int (x4 + 1), .ref r5, .int y]) (by decide +kernel) rfl rfl rfl).trans ?_
    refine (R_goto (off := (-68)) (t := 29) (by decide +kernel) (by decide +kernel)).trans ?_
    rfl
theorem s125_38v2 {L : Nat} {mi : Nat → Nat → Int32} {ml : Nat → Nat → Int64} {d : Nat} {Q : Option Value → xM → Prop} {x1 x2 x3 x4 x6 y z0 : Int32} : X 125 38 [.ref 2, .int x1, .int x2, .int x3, .int x4, .null, .int x6] [.int y, .int z0] (SH L, mi, ml, MR) (d + 1) Q =
    if (z0 < y) then (Xm 15 [.ref 38, .int x4] (SH L, mi, ml, MR) d (fun v μ' => X 125 50 [.ref 2, .int x1, .int x2, .int x3, .int x4, .null, .int x6] (v.toList ++ []) μ' (d + 1) Q)) else (Q (some (.int x2)) (SH L, (xw mi 2 11 x3), ml, MR)) := by
  refine (R_icmp_ge (off := 62) (t := 100) (by decide +kernel) (by decide +kernel)).trans (ite_congr rfl (fun c0 => ?_) (fun c0 => ?_))
  · refine (R_pure0 (ins := .aload_n 0) (len := 1) (loc' := [.ref 2, .int x1, .int x2, .int x3, .int x4, .null, .int x6]) (st' := [.ref 2]) (by decide +kernel) (fun _ => rfl)).trans ?_
    refine (R_gr (i := 34) (ci := 9) (k := 4) (n := 12) (b := 38) (by decide +kernel) (by decide +kernel) (by decide) rfl (SH_ref (by decide +kernel))).trans ?_
    refine (R_pure0 (ins := .iload 4) (len := 2) (loc' := [.ref 2, .int x1, .int x2, .int x3, .int x4, .null, .int x6]) (st' := [.int x4, .ref 38]) (by decide +kernel) (fun _ => rfl)).trans ?_
    refine (R_virt (i := 136) (f := 15) (kd := 0) (na := 1) (ml := 2) (ci := 2) (n := 5) (b := 38) (As := [.int x4]) (rest := []) (by decide +kernel) (by decide +kernel) (by decide) (by decide +kernel) rfl (by decide +kernel) rfl rfl (by decide +kernel) (Nat.le_of_ble_eq_true rfl)).trans ?_
    rfl
  · refine (R_pure0 (ins := .aload_n 0) (len := 1) (loc' := [.ref 2, .int x1, .int x2, .int x3, .int x4, .null, .int x6]) (st' := [.ref 2]) (by decide +kernel) (fun _ => rfl)).trans ?_
    refine (R_pure0 (ins := .iload_n 3) (len := 1) (loc' := [.ref 2, .int x1, .int x2, .int x3, .int x4, .null, .int x6]) (st' := [.int x3, .ref 2]) (by decide +kernel) (fun _ => rfl)).trans ?_
    refine (R_pi (i := 78) (ci := 9) (k := 11) (n := 12) (by decide +kernel) (by decide +kernel) (by decide) rfl).trans ?_
    refine (R_pure0 (ins := .iload_n 2) (len := 1) (loc' := [.ref 2, .int x1, .int x2, .int x3, .int x4, .null, .int x6]) (st' := [.int x2]) (by decide +kernel) (fun _ => rfl)).trans ?_
    exact R_ireturn (by decide +kernel) (by decide +kernel)
theorem s125_29v3 {L : Nat} {mi : Nat → Nat → Int32} {ml : Nat → Nat → Int64} {d : Nat} {Q : Option Value → xM → Prop} {x1 x2 x3 x4 x6 : Int32} {r5 : Nat} (hS_r5 : (SH L)[r5]? = some (4, 7)) : X 125 29 [.ref 2, .int x1, .int x2, .int x3, .int x4, .ref r5, .int x6] [] (SH L, mi, ml, MR) (d + 1) Q =
    Xm 16 [.ref 38] (SH L, mi, ml, MR) d (fun v μ' => X 125 38 [.ref 2, .int x1, .int x2, .int x3, .int x4, .ref r5, .int x6] (v.toList ++ [.int x4]) μ' (d + 1) Q) := by
  refine (R_pure0 (ins := .iload 4) (len := 2) (loc' := [.ref 2, .int x1, .int x2, .int x3, .int x4, .ref r5, .int x6]) (st' := [.int x4]) (by decide +kernel) (fun _ => rfl)).trans ?_
  refine (R_pure0 (ins := .aload_n 0) (len := 1) (loc' := [.ref 2, .int x1, .int x2, .int x3, .int x4, .ref r5, .int x6]) (st' := [.ref 2, .int x4]) (by decide +kernel) (fun _ => rfl)).trans ?_
  refine (R_gr (i := 34) (ci := 9) (k := 4) (n := 12) (b := 38) (by decide +kernel) (by decide +kernel) (by decide) rfl (SH_ref (by decide +kernel))).trans ?_
  refine (R_virt (i := 135) (f := 16) (kd := 0) (na := 0) (ml := 1) (ci := 2) (n := 5) (b := 38) (As := []) (rest := [.int x4]) (by decide +kernel) (by decide +kernel) (by decide) (by decide +kernel) rfl (by decide +kernel) rfl rfl (by decide +kernel) (Nat.le_of_ble_eq_true rfl)).trans ?_
  rfl
theorem s125_50v2 {L : Nat} {mi : Nat → Nat → Int32} {ml : Nat → Nat → Int64} {d : Nat} {Q : Option Value → xM → Prop} {x1 x2 x3 x4 x6 : Int32} {ry : Nat} (hS_ry : (SH L)[ry]? = some (4, 7)) : X 125 50 [.ref 2, .int x1, .int x2, .int x3, .int x4, .null, .int x6] [.ref ry] (SH L, mi, ml, MR) (d + 1) Q =
    Xm 18 [.ref 38] (SH L, mi, ml, MR) d (fun v μ' => X 125 71 [.ref 2, .int x1, .int x2, .int x3, .int x4, .ref ry, .int x6] (v.toList ++ [.int x1, .ref ry]) μ' (d + 1) Q) := by
  refine (R_pure0 (ins := .astore 5) (len := 2) (loc' := [.ref 2, .int x1, .int x2, .int x3, .int x4, .ref ry, .int x6]) (st' := []) (by decide +kernel) (fun _ => rfl)).trans ?_
  refine (R_pure0 (ins := .aload 5) (len := 2) (loc' := [.ref 2, .int x1, .int x2, .int x3, .int x4, .ref ry, .int x6]) (st' := [.ref ry]) (by decide +kernel) (fun _ => rfl)).trans ?_
  refine (R_ifnonnull_r (off := 7) (t := 61) (by decide +kernel) (by decide +kernel)).trans ?_
  refine (R_pure0 (ins := .aload 5) (len := 2) (loc' := [.ref 2, .int x1, .int x2, .int x3, .int x4, .ref ry, .int x6]) (st' := [.ref ry]) (by decide +kernel) (fun _ => rfl)).trans ?_
  refine (R_pure0 (ins := .iload_n 1) (len := 1) (loc' := [.ref 2, .int x1, .int x2, .int x3, .int x4, .ref ry, .int x6]) (st' := [.int x1, .ref ry]) (by decide +kernel) (fun _ => rfl)).trans ?_
  refine (R_pure0 (ins := .aload_n 0) (len := 1) (loc' := [.ref 2, .int x1, .int x2, .int x3, .int x4, .ref ry, .int x6]) (st' := [.ref 2, .int x1, .ref ry]) (by decide +kernel) (fun _ => rfl)).trans ?_
  refine (R_gr (i := 34) (ci := 9) (k := 4) (n := 12) (b := 38) (by decide +kernel) (by decide +kernel) (by decide) rfl (SH_ref (by decide +kernel))).trans ?_
  refine (R_virt (i := 140) (f := 18) (kd := 0) (na := 0) (ml := 1) (ci := 2) (n := 5) (b := 38) (As := []) (rest := [.int x1, .ref ry]) (by decide +kernel) (by decide +kernel) (by decide) (by decide +kernel) rfl (by decide +kernel) rfl rfl (by decide +kernel) (Nat.le_of_ble_eq_true rfl)).trans ?_
  rfl
theorem s125_50nv2 {L : Nat} {mi : Nat → Nat → Int32} {ml : Nat → Nat → Int64} {d : Nat} {Q : Option Value → xM → Prop} {x1 x2 x3 x4 x6 : Int32} : X 125 50 [.ref 2, .int x1, .int x2, .int x3, .int x4, .null, .int x6] [.null] (SH L, mi, ml, MR) d Q =
    X 125 29 [.ref 2, .int x1, .int (x2 + 0), .int (x3 + 0), .int (x4 + 1), .null, .int 0] [] (SH L, mi, ml, MR) d Q := by
  refine (R_pure0 (ins := .astore 5) (len := 2) (loc' := [.ref 2, .int x1, .int x2, .int x3, .int x4, .null, .int x6]) (st' := []) (by decide +kernel) (fun _ => rfl)).trans ?_
  refine (R_pure0 (ins := .aload 5) (len := 2) (loc' := [.ref 2, .int x1, .int x2, .int x3, .int x4, .null, .int x6]) (st' := [.null]) (by decide +kernel) (fun _ => rfl)).trans ?_
  refine (R_ifnonnull_n (off := 7) (by decide +kernel)).trans ?_
  refine (R_iconst (n := 0) (v := 0) (by decide +kernel) (by decide +kernel)).trans ?_
  refine (R_goto (off := 16) (t := 74) (by decide +kernel) (by decide +kernel)).trans ?_
  refine (R_pure0 (ins := .istore 6) (len := 2) (loc' := [.ref 2, .int x1, .int x2, .int x3, .int x4, .null, .int 0]) (st' := []) (by decide +kernel) (fun _ => rfl)).trans ?_
  refine (R_pure0 (ins := .iload_n 2) (len := 1) (loc' := [.ref 2, .int x1, .int x2, .int x3, .int x4, .null, .int 0]) (st' := [.int x2]) (by decide +kernel) (fun _ => rfl)).trans ?_
  refine (R_pure0 (ins := .iload 6) (len := 2) (loc' := [.ref 2, .int x1, .int x2, .int x3, .int x4, .null, .int 0]) (st' := [.int 0, .int x2]) (by decide +kernel) (fun _ => rfl)).trans ?_
  refine (R_pure0 (ins := .iadd) (len := 1) (loc' := [.ref 2, .int x1, .int x2, .int x3, .int x4, .null, .int 0]) (st' := [.int (x2 + 0)]) (by decide +kernel) (fun _ => rfl)).trans ?_
  refine (R_pure0 (ins := .istore_n 2) (len := 1) (loc' := [.ref 2, .int x1, .int (x2 + 0), .int x3, .int x4, .null, .int 0]) (st' := []) (by decide +kernel) (fun _ => rfl)).trans ?_
  refine (R_pure0 (ins := .iload_n 3) (len := 1) (loc' := [.ref 2, .int x1, .int (x2 + 0), .int x3, .int x4, .null, .int 0]) (st' := [.int x3]) (by decide +kernel) (fun _ => rfl)).trans ?_
  refine (R_pure0 (ins := .iload 6) (len := 2) (loc' := [.ref 2, .int x1, .int (x2 + 0), .int x3, .int x4, .null, .int 0]) (st' := [.int 0, .int x3]) (by decide +kernel) (fun _ => rfl)).trans ?_
  refine (R_if_le (off := 7) (t := 91) (by decide +kernel) (by decide +kernel)).trans ((if_neg (by decide)).trans ?_)
  refine (R_iconst (n := 0) (v := 0) (by decide +kernel) (by decide +kernel)).trans ?_
  refine (R_pure0 (ins := .iadd) (len := 1) (loc' := [.ref 2, .int x1, .int (x2 + 0), .int x3, .int x4, .null, .int 0]) (st' := [.int (x3 + 0)]) (by decide +kernel) (fun _ => rfl)).trans ?_
  refine (R_pure0 (ins := .istore_n 3) (len := 1) (loc' := [.ref 2, .int x1, .int (x2 + 0), .int (x3 + 0), .int x4, .null, .int 0]) (st' := []) (by decide +kernel) (fun _ => rfl)).trans ?_
  refine (R_iinc (k := 4) (n := 1) (x := x4) (v := (x4 + 1)) (loc' := [.ref 2, .int x1, .int (x2 + 0), .int (x3 + 0), .int (x4 + 1), .null, .int 0]) (by decide +kernel) rfl rfl rfl).trans ?_
  refine (R_goto (off := (-68)) (t := 29) (by decide +kernel) (by decide +kernel)).trans ?_
  rfl
theorem s125_38v3 {L : Nat} {mi : Nat → Nat → Int32} {ml : Nat → Nat → Int64} {d : Nat} {Q : Option Value → xM → Prop} {x1 x2 x3 x4 x6 y z0 : Int32} {r5 : Nat} (hS_r5 : (SH L)[r5]? = some (4, 7)) : X 125 38 [.ref 2, .int x1, .int x2, .int x3, .int x4, .ref r5, .int x6] [.int y, .int z0] (SH L, mi, ml, MR) (d + 1) Q =
    if (z0 < y) then (Xm 15 [.ref 38, .int x4] (SH L, mi, ml, MR) d (fun v μ' => X 125 50 [.ref 2, .int x1, .int x2, .int x3, .int x4, .ref r5, .int x6] (v.toList ++ []) μ' (d + 1) Q)) else (Q (some (.int x2)) (SH L, (xw mi 2 11 x3), ml, MR)) := by
  refine (R_icmp_ge (off := 62) (t := 100) (by decide +kernel) (by decide +kernel)).trans (ite_congr rfl (fun c0 => ?_) (fun c0 => ?_))
  · refine (R_pure0 (ins := .aload_n 0) (len := 1) (loc' := [.ref 2, .int x1, .int x2, .int x3, .int x4, .ref r5, .int x6]) (st' := [.ref 2]) (by decide +kernel) (fun _ => rfl)).trans ?_
    refine (R_gr (i := 34) (ci := 9) (k := 4) (n := 12) (b := 38) (by decide +kernel) (by decide +kernel) (by decide) rfl (SH_ref (by decide +kernel))).trans ?_
    refine (R_pure0 (ins := .iload 4) (len := 2) (loc' := [.ref 2, .int x1, .int x2, .int x3, .int x4, .ref r5, .int x6]) (st' := [.int x4, .ref 38]) (by decide +kernel) (fun _ => rfl)).trans ?_
    refine (R_virt (i := 136) (f := 15) (kd := 0) (na := 1) (ml := 2) (ci := 2) (n := 5) (b := 38) (As := [.int x4]) (rest := []) (by decide +kernel) (by decide +kernel) (by decide) (by decide +kernel) rfl (by decide +kernel) rfl rfl (by decide +kernel) (Nat.le_of_ble_eq_true rfl)).trans ?_
    rfl
  · refine (R_pure0 (ins := .aload_n 0) (len := 1) (loc' := [.ref 2, .int x1, .int x2, .int x3, .int x4, .ref r5, .int x6]) (st' := [.ref 2]) (by decide +kernel) (fun _ => rfl)).trans ?_
    refine (R_pure0 (ins := .iload_n 3) (len := 1) (loc' := [.ref 2, .int x1, .int x2, .int x3, .int x4, .ref r5, .int x6]) (st' := [.int x3, .ref 2]) (by decide +kernel) (fun _ => rfl)).trans ?_
    refine (R_pi (i := 78) (ci := 9) (k := 11) (n := 12) (by decide +kernel) (by decide +kernel) (by decide) rfl).trans ?_
    refine (R_pure0 (ins := .iload_n 2) (len := 1) (loc' := [.ref 2, .int x1, .int x2, .int x3, .int x4, .ref r5, .int x6]) (st' := [.int x2]) (by decide +kernel) (fun _ => rfl)).trans ?_
    exact R_ireturn (by decide +kernel) (by decide +kernel)
theorem s125_71v2 {L : Nat} {mi : Nat → Nat → Int32} {ml : Nat → Nat → Int64} {d : Nat} {Q : Option Value → xM → Prop} {x1 x2 x3 x4 x6 y z0 : Int32} {r5 : Nat} (hS_r5 : (SH L)[r5]? = some (4, 7)) : X 125 71 [.ref 2, .int x1, .int x2, .int x3, .int x4, .ref r5, .int x6] [.int y, .int z0, .ref r5] (SH L, mi, ml, MR) (d + 1) Q =
    Xm 58 [.ref r5, .int z0, .int y] (SH L, mi, ml, MR) d (fun v μ' => X 125 74 [.ref 2, .int x1, .int x2, .int x3, .int x4, .ref r5, .int x6] (v.toList ++ []) μ' (d + 1) Q) := by
  refine (R_virt (i := 262) (f := 58) (kd := 0) (na := 2) (ml := 5) (ci := 4) (n := 7) (b := r5) (As := [.int z0, .int y]) (rest := []) (by decide +kernel) (by decide +kernel) (by decide) (by decide +kernel) rfl (by decide +kernel) hS_r5 rfl (by decide +kernel) (Nat.le_of_ble_eq_true rfl)).trans ?_
  rfl
theorem s125_50v3 {L : Nat} {mi : Nat → Nat → Int32} {ml : Nat → Nat → Int64} {d : Nat} {Q : Option Value → xM → Prop} {x1 x2 x3 x4 x6 : Int32} {r5 ry : Nat} (hS_r5 : (SH L)[r5]? = some (4, 7)) (hS_ry : (SH L)[ry]? = some (4, 7)) : X 125 50 [.ref 2, .int x1, .int x2, .int x3, .int x4, .ref r5, .int x6] [.ref ry] (SH L, mi, ml, MR) (d + 1) Q =
    Xm 18 [.ref 38] (SH L, mi, ml, MR) d (fun v μ' => X 125 71 [.ref 2, .int x1, .int x2, .int x3, .int x4, .ref ry, .int x6] (v.toList ++ [.int x1, .ref ry]) μ' (d + 1) Q) := by
  refine (R_pure0 (ins := .astore 5) (len := 2) (loc' := [.ref 2, .int x1, .int x2, .int x3, .int x4, .ref ry, .int x6]) (st' := []) (by decide +kernel) (fun _ => rfl)).trans ?_
  refine (R_pure0 (ins := .aload 5) (len := 2) (loc' := [.ref 2, .int x1, .int x2, .int x3, .int x4, .ref ry, .int x6]) (st' := [.ref ry]) (by decide +kernel) (fun _ => rfl)).trans ?_
  refine (R_ifnonnull_r (off := 7) (t := 61) (by decide +kernel) (by decide +kernel)).trans ?_
  refine (R_pure0 (ins := .aload 5) (len := 2) (loc' := [.ref 2, .int x1, .int x2, .int x3, .int x4, .ref ry, .int x6]) (st' := [.ref ry]) (by decide +kernel) (fun _ => rfl)).trans ?_
  refine (R_pure0 (ins := .iload_n 1) (len := 1) (loc' := [.ref 2, .int x1, .int x2, .int x3, .int x4, .ref ry, .int x6]) (st' := [.int x1, .ref ry]) (by decide +kernel) (fun _ => rfl)).trans ?_
  refine (R_pure0 (ins := .aload_n 0) (len := 1) (loc' := [.ref 2, .int x1, .int x2, .int x3, .int x4, .ref ry, .int x6]) (st' := [.ref 2, .int x1, .ref ry]) (by decide +kernel) (fun _ => rfl)).trans ?_
  refine (R_gr (i := 34) (ci := 9) (k := 4) (n := 12) (b := 38) (by decide +kernel) (by decide +kernel) (by decide) rfl (SH_ref (by decide +kernel))).trans ?_
  refine (R_virt (i := 140) (f := 18) (kd := 0) (na := 0) (ml := 1) (ci := 2) (n := 5) (b := 38) (As := []) (rest := [.int x1, .ref ry]) (by decide +kernel) (by decide +kernel) (by decide) (by decide +kernel) rfl (by decide +kernel) rfl rfl (by decide +kernel) (Nat.le_of_ble_eq_true rfl)).trans ?_
  rfl
theorem s125_50nv3 {L : Nat} {mi : Nat → Nat → Int32} {ml : Nat → Nat → Int64} {d : Nat} {Q : Option Value → xM → Prop} {x1 x2 x3 x4 x6 : Int32} {r5 : Nat} (hS_r5 : (SH L)[r5]? = some (4, 7)) : X 125 50 [.ref 2, .int x1, .int x2, .int x3, .int x4, .ref r5, .int x6] [.null] (SH L, mi, ml, MR) d Q =
    X 125 29 [.ref 2, .int x1, .int (x2 + 0), .int (x3 + 0), .int (x4 + 1), .null, .int 0] [] (SH L, mi, ml, MR) d Q := by
  refine (R_pure0 (ins := .astore 5) (len := 2) (loc' := [.ref 2, .int x1, .int x2, .int x3, .int x4, .null, .int x6]) (st' := []) (by decide +kernel) (fun _ => rfl)).trans ?_
  refine (R_pure0 (ins := .aload 5) (len := 2) (loc' := [.ref 2, .int x1, .int x2, .int x3, .int x4, .null, .int x6]) (st' := [.null]) (by decide +kernel) (fun _ => rfl)).trans ?_
  refine (R_ifnonnull_n (off := 7) (by decide +kernel)).trans ?_
  refine (R_iconst (n := 0) (v := 0) (by decide +kernel) (by decide +kernel)).trans ?_
  refine (R_goto (off := 16) (t := 74) (by decide +kernel) (by decide +kernel)).trans ?_
  refine (R_pure0 (ins := .istore 6) (len := 2) (loc' := [.ref 2, .int x1, .int x2, .int x3, .int x4, .null, .int 0]) (st' := []) (by decide +kernel) (fun _ => rfl)).trans ?_
  refine (R_pure0 (ins := .iload_n 2) (len := 1) (loc' := [.ref 2, .int x1, .int x2, .int x3, .int x4, .null, .int 0]) (st' := [.int x2]) (by decide +kernel) (fun _ => rfl)).trans ?_
  refine (R_pure0 (ins := .iload 6) (len := 2) (loc' := [.ref 2, .int x1, .int x2, .int x3, .int x4, .null, .int 0]) (st' := [.int 0, .int x2]) (by decide +kernel) (fun _ => rfl)).trans ?_
  refine (R_pure0 (ins := .iadd) (len := 1) (loc' := [.ref 2, .int x1, .int x2, .int x3, .int x4, .null, .int 0]) (st' := [.int (x2 + 0)]) (by decide +kernel) (fun _ => rfl)).trans ?_
  refine (R_pure0 (ins := .istore_n 2) (len := 1) (loc' := [.ref 2, .int x1, .int (x2 + 0), .int x3, .int x4, .null, .int 0]) (st' := []) (by decide +kernel) (fun _ => rfl)).trans ?_
  refine (R_pure0 (ins := .iload_n 3) (len := 1) (loc' := [.ref 2, .int x1, .int (x2 + 0), .int x3, .int x4, .null, .int 0]) (st' := [.int x3]) (by decide +kernel) (fun _ => rfl)).trans ?_
  refine (R_pure0 (ins := .iload 6) (len := 2) (loc' := [.ref 2, .int x1, .int (x2 + 0), .int x3, .int x4, .null, .int 0]) (st' := [.int 0, .int x3]) (by decide +kernel) (fun _ => rfl)).trans ?_
  refine (R_if_le (off := 7) (t := 91) (by decide +kernel) (by decide +kernel)).trans ((if_neg (by decide)).trans ?_)
  refine (R_iconst (n := 0) (v := 0) (by decide +kernel) (by decide +kernel)).trans ?_
  refine (R_pure0 (ins := .iadd) (len := 1) (loc' := [.ref 2, .int x1, .int (x2 + 0), .int x3, .int x4, .null, .int 0]) (st' := [.int (x3 + 0)]) (by decide +kernel) (fun _ => rfl)).trans ?_
  refine (R_pure0 (ins := .istore_n 3) (len := 1) (loc' := [.ref 2, .int x1, .int (x2 + 0), .int (x3 + 0), .int x4, .null, .int 0]) (st' := []) (by decide +kernel) (fun _ => rfl)).trans ?_
  refine (R_iinc (k := 4) (n := 1) (x := x4) (v := (x4 + 1)) (loc' := [.ref 2, .int x1, .int (x2 + 0), .int (x3 + 0), .int (x4 + 1), .null, .int 0]) (by decide +kernel) rfl rfl rfl).trans ?_
  refine (R_goto (off := (-68)) (t := 29) (by decide +kernel) (by decide +kernel)).trans ?_
  rfl
theorem s125_74v2 {L : Nat} {mi : Nat → Nat → Int32} {ml : Nat → Nat → Int64} {d : Nat} {Q : Option Value → xM → Prop} {x1 x2 x3 x4 x6 y : Int32} {r5 : Nat} (hS_r5 : (SH L)[r5]? = some (4, 7)) : X 125 74 [.ref 2, .int x1, .int x2, .int x3, .int x4, .ref r5, .int x6] [.int y] (SH L, mi, ml, MR) d Q =
    if ((0 : Int32) < y) then (X 125 29 [.ref 2, .int x1, .int (x2 + y), .int (x3 + 1), .int (x4 + 1), .ref r5, .int y] [] (SH L, mi, ml, MR) d Q) else (X 125 29 [.ref 2, .int x1, .int (x2 + y), .int (x3 + 0), .int (x4 + 1), .ref r5, .int y] [] (SH L, mi, ml, MR) d Q) := by
  refine (R_pure0 (ins := .istore 6) (len := 2) (loc' := [.ref 2, .int x1, .int x2, .int x3, .int x4, .ref r5, .int y]) (st' := []) (by decide +kernel) (fun _ => rfl)).trans ?_
  refine (R_pure0 (ins := .iload_n 2) (len := 1) (loc' := [.ref 2, .int x1, .int x2, .int x3, .int x4, .ref r5, .int y]) (st' := [.int x2]) (by decide +kernel) (fun _ => rfl)).trans ?_
  refine (R_pure0 (ins := .iload 6) (len := 2) (loc' := [.ref 2, .int x1, .int x2, .int x3, .int x4, .ref r5, .int y]) (st' := [.int y, .int x2]) (by decide +kernel) (fun _ => rfl)).trans ?_
  refine (R_pure0 (ins := .iadd) (len := 1) (loc' := [.ref 2, .int x1, .int x2, .int x3, .int x4, .ref r5, .int y]) (st' := [.int (x2 + y)]) (by decide +kernel) (fun _ => rfl)).trans ?_
  refine (R_pure0 (ins := .istore_n 2) (len := 1) (loc' := [.ref 2, .int x1, .int (x2 + y), .int x3, .int x4, .ref r5, .int y]) (st' := []) (by decide +kernel) (fun _ => rfl)).trans ?_
  refine (R_pure0 (ins := .iload_n 3) (len := 1) (loc' := [.ref 2, .int x1, .int (x2 + y), .int x3, .int x4, .ref r5, .int y]) (st' := [.int x3]) (by decide +kernel) (fun _ => rfl)).trans ?_
  refine (R_pure0 (ins := .iload 6) (len := 2) (loc' := [.ref 2, .int x1, .int (x2 + y), .int x3, .int x4, .ref r5, .int y]) (st' := [.int y, .int x3]) (by decide +kernel) (fun _ => rfl)).trans ?_
  refine (R_if_le (off := 7) (t := 91) (by decide +kernel) (by decide +kernel)).trans (ite_congr rfl (fun c0 => ?_) (fun c0 => ?_))
  · refine (R_iconst (n := 1) (v := 1) (by decide +kernel) (by decide +kernel)).trans ?_
    refine (R_goto (off := 4) (t := 92) (by decide +kernel) (by decide +kernel)).trans ?_
    refine (R_pure0 (ins := .iadd) (len := 1) (loc' := [.ref 2, .int x1, .int (x2 + y), .int x3, .int x4, .ref r5, .int y]) (st' := [.int (x3 + 1)]) (by decide +kernel) (fun _ => rfl)).trans ?_
    refine (R_pure0 (ins := .istore_n 3) (len := 1) (loc' := [.ref 2, .int x1, .int (x2 + y), .int (x3 + 1), .int x4, .ref r5, .int y]) (st' := []) (by decide +kernel) (fun _ => rfl)).trans ?_
    refine (R_iinc (k := 4) (n := 1) (x := x4) (v := (x4 + 1)) (loc' := [.ref 2, .int x1, .int (x2 + y), .int (x3 + 1), .int (x4 + 1), .ref r5, .int y]) (by decide +kernel) rfl rfl rfl).trans ?_
    refine (R_goto (off := (-68)) (t := 29) (by decide +kernel) (by decide +kernel)).trans ?_
    rfl
  · refine (R_iconst (n := 0) (v := 0) (by decide +kernel) (by decide +kernel)).trans ?_
    refine (R_pure0 (ins := .iadd) (len := 1) (loc' := [.ref 2, .int x1, .int (x2 + y), .int x3, .int x4, .ref r5, .int y]) (st' := [.int (x3 + 0)]) (by decide +kernel) (fun _ => rfl)).trans ?_
    refine (R_pure0 (ins := .istore_n 3) (len := 1) (loc' := [.ref 2, .int x1, .int (x2 + y), .int (x3 + 0), .int x4, .ref r5, .int y]) (st' := []) (by decide +kernel) (fun _ => rfl)).trans ?_
    refine (R_iinc (k := 4) (n := 1) (x := x4) (v := (x4 + 1)) (loc' := [.ref 2, .int x1, .int (x2 + y), .int (x3 + 0), .int (x4 + 1), .ref r5, .int y]) (by decide +kernel) rfl rfl rfl).trans ?_
    refine (R_goto (off := (-68)) (t := 29) (by decide +kernel) (by decide +kernel)).trans ?_
    rfl
theorem s126 {L : Nat} {mi : Nat → Nat → Int32} {ml : Nat → Nat → Int64} {d : Nat} {Q : Option Value → xM → Prop} {x1 x2 : Int32} : Xm 126 [.ref 2, .int x1, .int x2] (SH L, mi, ml, MR) (d + 1) Q =
    Xm 15 [.ref 38, .int x1] (SH L, mi, ml, MR) d (fun v μ' => X 126 8 [.ref 2, .int x1, .int x2, xmk, xmk] (v.toList ++ []) μ' (d + 1) Q) := by
  rw [Xm_ent (n := 5) (loc := [.ref 2, .int x1, .int x2, xmk, xmk]) (by decide +kernel) rfl]
  refine (R_pure0 (ins := .aload_n 0) (len := 1) (loc' := [.ref 2, .int x1, .int x2, xmk, xmk]) (st' := [.ref 2]) (by decide +kernel) (fun _ => rfl)).trans ?_
  refine (R_gr (i := 34) (ci := 9) (k := 4) (n := 12) (b := 38) (by decide +kernel) (by decide +kernel) (by decide) rfl (SH_ref (by decide +kernel))).trans ?_
  refine (R_pure0 (ins := .iload_n 1) (len := 1) (loc' := [.ref 2, .int x1, .int x2, xmk, xmk]) (st' := [.int x1, .ref 38]) (by decide +kernel) (fun _ => rfl)).trans ?_
  refine (R_virt (i := 136) (f := 15) (kd := 0) (na := 1) (ml := 2) (ci := 2) (n := 5) (b := 38) (As := [.int x1]) (rest := []) (by decide +kernel) (by decide +kernel) (by decide) (by decide +kernel) rfl (by decide +kernel) rfl rfl (by decide +kernel) (Nat.le_of_ble_eq_true rfl)).trans ?_
  rfl
theorem s126_8 {L : Nat} {mi : Nat → Nat → Int32} {ml : Nat → Nat → Int64} {d : Nat} {Q : Option Value → xM → Prop} {x1 x2 : Int32} {ry : Nat} (hS_ry : (SH L)[ry]? = some (4, 7)) : X 126 8 [.ref 2, .int x1, .int x2, xmk, xmk] [.ref ry] (SH L, mi, ml, MR) (d + 1) Q =
    Xm 82 [.ref 3, .int x2] (SH L, mi, ml, MR) d (fun v μ' => X 126 24 [.ref 2, .int x1, .int x2, .ref ry, xmk] (v.toList ++ [.ref 2]) μ' (d + 1) Q) := by
  refine (R_pure0 (ins := .astore_n 3) (len := 1) (loc' := [.ref 2, .int x1, .int x2, .ref ry, xmk]) (st' := []) (by decide +kernel) (fun _ => rfl)).trans ?_
  refine (R_pure0 (ins := .aload_n 3) (len := 1) (loc' := [.ref 2, .int x1, .int x2, .ref ry, xmk]) (st' := [.ref ry]) (by decide +kernel) (fun _ => rfl)).trans ?_
  refine (R_ifnonnull_r (off := 5) (t := 15) (by decide +kernel) (by decide +kernel)).trans ?_
  refine (R_pure0 (ins := .aload_n 0) (len := 1) (loc' := [.ref 2, .int x1, .int x2, .ref ry, xmk]) (st' := [.ref 2]) (by decide +kernel) (fun _ => rfl)).trans ?_
  refine (R_pure0 (ins := .aload_n 0) (len := 1) (loc' := [.ref 2, .int x1, .int x2, .ref ry, xmk]) (st' := [.ref 2, .ref 2]) (by decide +kernel) (fun _ => rfl)).trans ?_
  refine (R_gr (i := 14) (ci := 9) (k := 0) (n := 12) (b := 3) (by decide +kernel) (by decide +kernel) (by decide) rfl (SH_ref (by decide +kernel))).trans ?_
  refine (R_pure0 (ins := .iload_n 2) (len := 1) (loc' := [.ref 2, .int x1, .int x2, .ref ry, xmk]) (st' := [.int x2, .ref 3, .ref 2]) (by decide +kernel) (fun _ => rfl)).trans ?_
  refine (R_virt (i := 81) (f := 82) (kd := 0) (na := 1) (ml := 2) (ci := 7) (n := 1) (b := 3) (As := [.int x2]) (rest := [.ref 2]) (by decide +kernel) (by decide +kernel) (by decide) (by decide +kernel) rfl (by decide +kernel) rfl rfl (by decide +kernel) (Nat.le_of_ble_eq_true rfl)).trans ?_
  rfl
theorem s126_8n {L : Nat} {mi : Nat → Nat → Int32} {ml : Nat → Nat → Int64} {d : Nat} {Q : Option Value → xM → Prop} {x1 x2 : Int32} : X 126 8 [.ref 2, .int x1, .int x2, xmk, xmk] [.null] (SH L, mi, ml, MR) d Q =
    Q (some (.int (-1))) (SH L, mi, ml, MR) := by
  refine (R_pure0 (ins := .astore_n 3) (len := 1) (loc' := [.ref 2, .int x1, .int x2, .null, xmk]) (st' := []) (by decide +kernel) (fun _ => rfl)).trans ?_
  refine (R_pure0 (ins := .aload_n 3) (len := 1) (loc' := [.ref 2, .int x1, .int x2, .null, xmk]) (st' := [.null]) (by decide +kernel) (fun _ => rfl)).trans ?_
  refine (R_ifnonnull_n (off := 5) (by decide +kernel)).trans ?_
  refine (R_iconst (n := (-1)) (v := (-1)) (by decide +kernel) (by decide +kernel)).trans ?_
  exact R_ireturn (by decide +kernel) (by decide +kernel)
theorem s126_24 {L : Nat} {mi : Nat → Nat → Int32} {ml : Nat → Nat → Int64} {d : Nat} {Q : Option Value → xM → Prop} {x1 x2 : Int32} {r3 ry : Nat} {n_ry : Nat} (hS_r3 : (SH L)[r3]? = some (4, 7)) (hS_ry : isStrip L ry n_ry) : X 126 24 [.ref 2, .int x1, .int x2, .ref r3, xmk] [.ref ry, .ref 2] (SH L, mi, ml, MR) (d + 1) Q =
    Xm 147 [.ref 2, .ref ry] (SH L, mi, ml, MR) d (fun v μ' => X 126 27 [.ref 2, .int x1, .int x2, .ref r3, xmk] (v.toList ++ []) μ' (d + 1) Q) := by
  refine (R_virt (i := 265) (f := 147) (kd := 0) (na := 1) (ml := 3) (ci := 9) (n := 12) (b := 2) (As := [.ref ry]) (rest := []) (by decide +kernel) (by decide +kernel) (by decide) (by decide +kernel) rfl (by decide +kernel) rfl rfl (by decide +kernel) (Nat.le_of_ble_eq_true rfl)).trans ?_
  rfl
theorem s126_24n {L : Nat} {mi : Nat → Nat → Int32} {ml : Nat → Nat → Int64} {d : Nat} {Q : Option Value → xM → Prop} {x1 x2 : Int32} {r3 : Nat} (hS_r3 : (SH L)[r3]? = some (4, 7)) : X 126 24 [.ref 2, .int x1, .int x2, .ref r3, xmk] [.null, .ref 2] (SH L, mi, ml, MR) (d + 1) Q =
    Xm 147 [.ref 2, .null] (SH L, mi, ml, MR) d (fun v μ' => X 126 27 [.ref 2, .int x1, .int x2, .ref r3, xmk] (v.toList ++ []) μ' (d + 1) Q) := by
  refine (R_virt (i := 265) (f := 147) (kd := 0) (na := 1) (ml := 3) (ci := 9) (n := 12) (b := 2) (As := [.null]) (rest := []) (by decide +kernel) (by decide +kernel) (by decide) (by decide +kernel) rfl (by decide +kernel) rfl rfl (by decide +kernel) (Nat.le_of_ble_eq_true rfl)).trans ?_
  rfl
theorem s126_27 {L : Nat} {mi : Nat → Nat → Int32} {ml : Nat → Nat → Int64} {d : Nat} {Q : Option Value → xM → Prop} {x1 x2 y : Int32} {r3 : Nat} (hS_r3 : (SH L)[r3]? = some (4, 7)) : X 126 27 [.ref 2, .int x1, .int x2, .ref r3, xmk] [.int y] (SH L, mi, ml, MR) (d + 1) Q =
    if (y = 0) then (Xm 8 [.ref 62, .int (mi r3 0)] (SH L, mi, ml, MR) d (fun v μ' => X 126 50 [.ref 2, .int x1, .int x2, .ref r3, .int y] (v.toList ++ []) μ' (d + 1) Q)) else (Q (some (.int y)) (SH L, mi, ml, MR)) := by
  refine (R_pure0 (ins := .istore 4) (len := 2) (loc' := [.ref 2, .int x1, .int x2, .ref r3, .int y]) (st' := []) (by decide +kernel) (fun _ => rfl)).trans ?_
  refine (R_pure0 (ins := .iload 4) (len := 2) (loc' := [.ref 2, .int x1, .int x2, .ref r3, .int y]) (st' := [.int y]) (by decide +kernel) (fun _ => rfl)).trans ?_
  refine (R_if_eq (off := 8) (t := 39) (by decide +kernel) (by decide +kernel)).trans (ite_congr rfl (fun c0 => ?_) (fun c0 => ?_))
  · refine (R_pure0 (ins := .aload_n 0) (len := 1) (loc' := [.ref 2, .int x1, .int x2, .ref r3, .int y]) (st' := [.ref 2]) (by decide +kernel) (fun _ => rfl)).trans ?_
    refine (R_gr (i := 59) (ci := 9) (k := 7) (n := 12) (b := 62) (by decide +kernel) (by decide +kernel) (by decide) rfl (SH_ref (by decide +kernel))).trans ?_
    refine (R_pure0 (ins := .aload_n 3) (len := 1) (loc' := [.ref 2, .int x1, .int x2, .ref r3, .int y]) (st' := [.ref r3, .ref 62]) (by decide +kernel) (fun _ => rfl)).trans ?_
    refine (R_gi (i := 149) (ci := 4) (k := 0) (n := 7) (by decide +kernel) (by decide +kernel) (by decide) hS_r3).trans ?_
    refine (R_virt (i := 268) (f := 8) (kd := 0) (na := 1) (ml := 2) (ci := 1) (n := 2) (b := 62) (As := [.int (mi r3 0)]) (rest := []) (by decide +kernel) (by decide +kernel) (by decide) (by decide +kernel) rfl (by decide +kernel) rfl rfl (by decide +kernel) (Nat.le_of_ble_eq_true rfl)).trans ?_
    rfl
  · refine (R_pure0 (ins := .iload 4) (len := 2) (loc' := [.ref 2, .int x1, .int x2, .ref r3, .int y]) (st' := [.int y]) (by decide +kernel) (fun _ => rfl)).trans ?_
    refine (R_goto (off := 14) (t := 50) (by decide +kernel) (by decide +kernel)).trans ?_
    exact R_ireturn (by decide +kernel) (by decide +kernel)
theorem s126_50 {L : Nat} {mi : Nat → Nat → Int32} {ml : Nat → Nat → Int64} {d : Nat} {Q : Option Value → xM → Prop} {x1 x2 x4 y : Int32} {r3 : Nat} (hS_r3 : (SH L)[r3]? = some (4, 7)) : X 126 50 [.ref 2, .int x1, .int x2, .ref r3, .int x4] [.int y] (SH L, mi, ml, MR) d Q =
    Q (some (.int y)) (SH L, mi, ml, MR) := by
  exact R_ireturn (by decide +kernel) (by decide +kernel)
theorem s127 {L : Nat} {mi : Nat → Nat → Int32} {ml : Nat → Nat → Int64} {d : Nat} {Q : Option Value → xM → Prop} {x1 x2 : Int32} : Xm 127 [.ref 2, .int x1, .int x2] (SH L, mi, ml, MR) (d + 1) Q =
    Xm 15 [.ref 38, .int x1] (SH L, mi, ml, MR) d (fun v μ' => X 127 8 [.ref 2, .int x1, .int x2, xmk, xmk] (v.toList ++ []) μ' (d + 1) Q) := by
  rw [Xm_ent (n := 5) (loc := [.ref 2, .int x1, .int x2, xmk, xmk]) (by decide +kernel) rfl]
  refine (R_pure0 (ins := .aload_n 0) (len := 1) (loc' := [.ref 2, .int x1, .int x2, xmk, xmk]) (st' := [.ref 2]) (by decide +kernel) (fun _ => rfl)).trans ?_
  refine (R_gr (i := 34) (ci := 9) (k := 4) (n := 12) (b := 38) (by decide +kernel) (by decide +kernel) (by decide) rfl (SH_ref (by decide +kernel))).trans ?_
  refine (R_pure0 (ins := .iload_n 1) (len := 1) (loc' := [.ref 2, .int x1, .int x2, xmk, xmk]) (st' := [.int x1, .ref 38]) (by decide +kernel) (fun _ => rfl)).trans ?_
  refine (R_virt (i := 136) (f := 15) (kd := 0) (na := 1) (ml := 2) (ci := 2) (n := 5) (b := 38) (As := [.int x1]) (rest := []) (by decide +kernel) (by decide +kernel) (by decide) (by decide +kernel) rfl (by decide +kernel) rfl rfl (by decide +kernel) (Nat.le_of_ble_eq_true rfl)).trans ?_
  rfl
theorem s127_8 {L : Nat} {mi : Nat → Nat → Int32} {ml : Nat → Nat → Int64} {d : Nat} {Q : Option Value → xM → Prop} {x1 x2 : Int32} {ry : Nat} (hS_ry : (SH L)[ry]? = some (4, 7)) : X 127 8 [.ref 2, .int x1, .int x2, xmk, xmk] [.ref ry] (SH L, mi, ml, MR) (d + 1) Q =
    Xm 82 [.ref 3, .int x2] (SH L, mi, ml, MR) d (fun v μ' => X 127 24 [.ref 2, .int x1, .int x2, .ref ry, xmk] (v.toList ++ [.ref 2]) μ' (d + 1) Q) := by
  refine (R_pure0 (ins := .astore_n 3) (len := 1) (loc' := [.ref 2, .int x1, .int x2, .ref ry, xmk]) (st' := []) (by decide +kernel) (fun _ => rfl)).trans ?_
  refine (R_pure0 (ins := .aload_n 3) (len := 1) (loc' := [.ref 2, .int x1, .int x2, .ref ry, xmk]) (st' := [.ref ry]) (by decide +kernel) (fun _ => rfl)).trans ?_
  refine (R_ifnonnull_r (off := 5) (t := 15) (by decide +kernel) (by decide +kernel)).trans ?_
  refine (R_pure0 (ins := .aload_n 0) (len := 1) (loc' := [.ref 2, .int x1, .int x2, .ref ry, xmk]) (st' := [.ref 2]) (by decide +kernel) (fun _ => rfl)).trans ?_
  refine (R_pure0 (ins := .aload_n 0) (len := 1) (loc' := [.ref 2, .int x1, .int x2, .ref ry, xmk]) (st' := [.ref 2, .ref 2]) (by decide +kernel) (fun _ => rfl)).trans ?_
  refine (R_gr (i := 14) (ci := 9) (k := 0) (n := 12) (b := 3) (by decide +kernel) (by decide +kernel) (by decide) rfl (SH_ref (by decide +kernel))).trans ?_
  refine (R_pure0 (ins := .iload_n 2) (len := 1) (loc' := [.ref 2, .int x1, .int x2, .ref ry, xmk]) (st' := [.int x2, .ref 3, .ref 2]) (by decide +kernel) (fun _ => rfl)).trans ?_
  refine (R_virt (i := 81) (f := 82) (kd := 0) (na := 1) (ml := 2) (ci := 7) (n := 1) (b := 3) (As := [.int x2]) (rest := [.ref 2]) (by decide +kernel) (by decide +kernel) (by decide) (by decide +kernel) rfl (by decide +kernel) rfl rfl (by decide +kernel) (Nat.le_of_ble_eq_true rfl)).trans ?_
  rfl
theorem s127_8n {L : Nat} {mi : Nat → Nat → Int32} {ml : Nat → Nat → Int64} {d : Nat} {Q : Option Value → xM → Prop} {x1 x2 : Int32} : X 127 8 [.ref 2, .int x1, .int x2, xmk, xmk] [.null] (SH L, mi, ml, MR) d Q =
    Q (some (.int (-1))) (SH L, mi, ml, MR) := by
  refine (R_pure0 (ins := .astore_n 3) (len := 1) (loc' := [.ref 2, .int x1, .int x2, .null, xmk]) (st' := []) (by decide +kernel) (fun _ => rfl)).trans ?_
  refine (R_pure0 (ins := .aload_n 3) (len := 1) (loc' := [.ref 2, .int x1, .int x2, .null, xmk]) (st' := [.null]) (by decide +kernel) (fun _ => rfl)).trans ?_
  refine (R_ifnonnull_n (off := 5) (by decide +kernel)).trans ?_
  refine (R_iconst (n := (-1)) (v := (-1)) (by decide +kernel) (by decide +kernel)).trans ?_
  exact R_ireturn (by decide +kernel) (by decide +kernel)
theorem s127_24 {L : Nat} {mi : Nat → Nat → Int32} {ml : Nat → Nat → Int64} {d : Nat} {Q : Option Value → xM → Prop} {x1 x2 : Int32} {r3 ry : Nat} {n_ry : Nat} (hS_r3 : (SH L)[r3]? = some (4, 7)) (hS_ry : isStrip L ry n_ry) : X 127 24 [.ref 2, .int x1, .int x2, .ref r3, xmk] [.ref ry, .ref 2] (SH L, mi, ml, MR) (d + 1) Q =
    Xm 147 [.ref 2, .ref ry] (SH L, mi, ml, MR) d (fun v μ' => X 127 27 [.ref 2, .int x1, .int x2, .ref r3, xmk] (v.toList ++ []) μ' (d + 1) Q) := by
  refine (R_virt (i := 265) (f := 147) (kd := 0) (na := 1) (ml := 3) (ci := 9) (n := 12) (b := 2) (As := [.ref ry]) (rest := []) (by decide +kernel) (by decide +kernel) (by decide) (by decide +kernel) rfl (by decide +kernel) rfl rfl (by decide +kernel) (Nat.le_of_ble_eq_true rfl)).trans ?_
  rfl
theorem s127_24n {L : Nat} {mi : Nat → Nat → Int32} {ml : Nat → Nat → Int64} {d : Nat} {Q : Option Value → xM → Prop} {x1 x2 : Int32} {r3 : Nat} (hS_r3 : (SH L)[r3]? = some (4, 7)) : X 127 24 [.ref 2, .int x1, .int x2, .ref r3, xmk] [.null, .ref 2] (SH L, mi, ml, MR) (d + 1) Q =
    Xm 147 [.ref 2, .null] (SH L, mi, ml, MR) d (fun v μ' => X 127 27 [.ref 2, .int x1, .int x2, .ref r3, xmk] (v.toList ++ []) μ' (d + 1) Q) := by
  refine (R_virt (i := 265) (f := 147) (kd := 0) (na := 1) (ml := 3) (ci := 9) (n := 12) (b := 2) (As := [.null]) (rest := []) (by decide +kernel) (by decide +kernel) (by decide) (by decide +kernel) rfl (by decide +kernel) rfl rfl (by decide +kernel) (Nat.le_of_ble_eq_true rfl)).trans ?_
  rfl
theorem s127_27 {L : Nat} {mi : Nat → Nat → Int32} {ml : Nat → Nat → Int64} {d : Nat} {Q : Option Value → xM → Prop} {x1 x2 y : Int32} {r3 : Nat} (hS_r3 : (SH L)[r3]? = some (4, 7)) : X 127 27 [.ref 2, .int x1, .int x2, .ref r3, xmk] [.int y] (SH L, mi, ml, MR) (d + 1) Q =
    if (y = 0) then (Xm 10 [.ref 62, .int (mi r3 3)] (SH L, mi, ml, MR) d (fun v μ' => X 127 50 [.ref 2, .int x1, .int x2, .ref r3, .int y] (v.toList ++ []) μ' (d + 1) Q)) else (Q (some (.int y)) (SH L, mi, ml, MR)) := by
  refine (R_pure0 (ins := .istore 4) (len := 2) (loc' := [.ref 2, .int x1, .int x2, .ref r3, .int y]) (st' := []) (by decide +kernel) (fun _ => rfl)).trans ?_
  refine (R_pure0 (ins := .iload 4) (len := 2) (loc' := [.ref 2, .int x1, .int x2, .ref r3, .int y]) (st' := [.int y]) (by decide +kernel) (fun _ => rfl)).trans ?_
  refine (R_if_eq (off := 8) (t := 39) (by decide +kernel) (by decide +kernel)).trans (ite_congr rfl (fun c0 => ?_) (fun c0 => ?_))
  · refine (R_pure0 (ins := .aload_n 0) (len := 1) (loc' := [.ref 2, .int x1, .int x2, .ref r3, .int y]) (st' := [.ref 2]) (by decide +kernel) (fun _ => rfl)).trans ?_
    refine (R_gr (i := 59) (ci := 9) (k := 7) (n := 12) (b := 62) (by decide +kernel) (by decide +kernel) (by decide) rfl (SH_ref (by decide +kernel))).trans ?_
    refine (R_pure0 (ins := .aload_n 3) (len := 1) (loc' := [.ref 2, .int x1, .int x2, .ref r3, .int y]) (st' := [.ref r3, .ref 62]) (by decide +kernel) (fun _ => rfl)).trans ?_
    refine (R_gi (i := 271) (ci := 4) (k := 3) (n := 7) (by decide +kernel) (by decide +kernel) (by decide) hS_r3).trans ?_
    refine (R_virt (i := 274) (f := 10) (kd := 0) (na := 1) (ml := 4) (ci := 1) (n := 2) (b := 62) (As := [.int (mi r3 3)]) (rest := []) (by decide +kernel) (by decide +kernel) (by decide) (by decide +kernel) rfl (by decide +kernel) rfl rfl (by decide +kernel) (Nat.le_of_ble_eq_true rfl)).trans ?_
    rfl
  · refine (R_pure0 (ins := .iload 4) (len := 2) (loc' := [.ref 2, .int x1, .int x2, .ref r3, .int y]) (st' := [.int y]) (by decide +kernel) (fun _ => rfl)).trans ?_
    refine (R_goto (off := 14) (t := 50) (by decide +kernel) (by decide +kernel)).trans ?_
    exact R_ireturn (by decide +kernel) (by decide +kernel)
theorem s127_50 {L : Nat} {mi : Nat → Nat → Int32} {ml : Nat → Nat → Int64} {d : Nat} {Q : Option Value → xM → Prop} {x1 x2 x4 y : Int32} {r3 : Nat} (hS_r3 : (SH L)[r3]? = some (4, 7)) : X 127 50 [.ref 2, .int x1, .int x2, .ref r3, .int x4] [.int y] (SH L, mi, ml, MR) d Q =
    Q (some (.int y)) (SH L, mi, ml, MR) := by
  exact R_ireturn (by decide +kernel) (by decide +kernel)
theorem s128 {L : Nat} {mi : Nat → Nat → Int32} {ml : Nat → Nat → Int64} {d : Nat} {Q : Option Value → xM → Prop} {x1 x2 x3 : Int32} : Xm 128 [.ref 2, .int x1, .int x2, .int x3] (SH L, mi, ml, MR) (d + 1) Q =
    Xm 15 [.ref 38, .int x1] (SH L, mi, ml, MR) d (fun v μ' => X 128 8 [.ref 2, .int x1, .int x2, .int x3, xmk] (v.toList ++ []) μ' (d + 1) Q) := by
  rw [Xm_ent (n := 5) (loc := [.ref 2, .int x1, .int x2, .int x3, xmk]) (by decide +kernel) rfl]
  refine (R_pure0 (ins := .aload_n 0) (len := 1) (loc' := [.ref 2, .int x1, .int x2, .int x3, xmk]) (st' := [.ref 2]) (by decide +kernel) (fun _ => rfl)).trans ?_
  refine (R_gr (i := 34) (ci := 9) (k := 4) (n := 12) (b := 38) (by decide +kernel) (by decide +kernel) (by decide) rfl (SH_ref (by decide +kernel))).trans ?_
  refine (R_pure0 (ins := .iload_n 1) (len := 1) (loc' := [.ref 2, .int x1, .int x2, .int x3, xmk]) (st' := [.int x1, .ref 38]) (by decide +kernel) (fun _ => rfl)).trans ?_
  refine (R_virt (i := 136) (f := 15) (kd := 0) (na := 1) (ml := 2) (ci := 2) (n := 5) (b := 38) (As := [.int x1]) (rest := []) (by decide +kernel) (by decide +kernel) (by decide) (by decide +kernel) rfl (by decide +kernel) rfl rfl (by decide +kernel) (Nat.le_of_ble_eq_true rfl)).trans ?_
  rfl
theorem s128_8 {L : Nat} {mi : Nat → Nat → Int32} {ml : Nat → Nat → Int64} {d : Nat} {Q : Option Value → xM → Prop} {x1 x2 x3 : Int32} {ry : Nat} (hS_ry : (SH L)[ry]? = some (4, 7)) : X 128 8 [.ref 2, .int x1, .int x2, .int x3, xmk] [.ref ry] (SH L, mi, ml, MR) (d + 1) Q =
    Xm 142 [.int x2] (SH L, mi, ml, MR) d (fun v μ' => X 128 15 [.ref 2, .int x1, .int x2, .int x3, xmk] (v.toList ++ []) μ' (d + 1) Q) := by
  refine (R_ifnull_r (off := 10) (by decide +kernel)).trans ?_
  refine (R_pure0 (ins := .iload_n 2) (len := 1) (loc' := [.ref 2, .int x1, .int x2, .int x3, xmk]) (st' := [.int x2]) (by decide +kernel) (fun _ => rfl)).trans ?_
  refine (R_static (i := 160) (f := 142) (kd := 2) (na := 1) (ml := 1) (As := [.int x2]) (rest := []) (by decide +kernel) (by decide +kernel) (by decide) (by decide +kernel) rfl rfl (by decide +kernel) (Nat.le_of_ble_eq_true rfl)).trans ?_
  rfl
theorem s128_8n {L : Nat} {mi : Nat → Nat → Int32} {ml : Nat → Nat → Int64} {d : Nat} {Q : Option Value → xM → Prop} {x1 x2 x3 : Int32} : X 128 8 [.ref 2, .int x1, .int x2, .int x3, xmk] [.null] (SH L, mi, ml, MR) d Q =
    Q (some (.int (-1))) (SH L, mi, ml, MR) := by
  refine (R_ifnull_n (off := 10) (t := 18) (by decide +kernel) (by decide +kernel)).trans ?_
  refine (R_iconst (n := (-1)) (v := (-1)) (by decide +kernel) (by decide +kernel)).trans ?_
  exact R_ireturn (by decide +kernel) (by decide +kernel)
theorem s128_15 {L : Nat} {mi : Nat → Nat → Int32} {ml : Nat → Nat → Int64} {d : Nat} {Q : Option Value → xM → Prop} {x1 x2 x3 y : Int32} : X 128 15 [.ref 2, .int x1, .int x2, .int x3, xmk] [.int y] (SH L, mi, ml, MR) (d + 1) Q =
    if (y = 0) then (Q (some (.int (-1))) (SH L, mi, ml, MR)) else (Xm 82 [.ref 3, .int x3] (SH L, mi, ml, MR) d (fun v μ' => X 128 29 [.ref 2, .int x1, .int x2, .int x3, xmk] (v.toList ++ [.ref 2]) μ' (d + 1) Q)) := by
  refine (R_if_ne (off := 5) (t := 20) (by decide +kernel) (by decide +kernel)).trans (ite_congr rfl (fun c0 => ?_) (fun c0 => ?_))
  · refine (R_iconst (n := (-1)) (v := (-1)) (by decide +kernel) (by decide +kernel)).trans ?_
    exact R_ireturn (by decide +kernel) (by decide +kernel)
  · refine (R_pure0 (ins := .aload_n 0) (len := 1) (loc' := [.ref 2, .int x1, .int x2, .int x3, xmk]) (st' := [.ref 2]) (by decide +kernel) (fun _ => rfl)).trans ?_
    refine (R_pure0 (ins := .aload_n 0) (len := 1) (loc' := [.ref 2, .int x1, .int x2, .int x3, xmk]) (st' := [.ref 2, .ref 2]) (by decide +kernel) (fun _ => rfl)).trans ?_
    refine (R_gr (i := 14) (ci := 9) (k := 0) (n := 12) (b := 3) (by decide +kernel) (by decide +kernel) (by decide) rfl (SH_ref (by decide +kernel))).trans ?_
    refine (R_pure0 (ins := .iload_n 3) (len := 1) (loc' := [.ref 2, .int x1, .int x2, .int x3, xmk]) (st' := [.int x3, .ref 3, .ref 2]) (by decide +kernel) (fun _ => rfl)).trans ?_
    refine (R_virt (i := 81) (f := 82) (kd := 0) (na := 1) (ml := 2) (ci := 7) (n := 1) (b := 3) (As := [.int x3]) (rest := [.ref 2]) (by decide +kernel) (by decide +kernel) (by decide) (by decide +kernel) rfl (by decide +kernel) rfl rfl (by decide +kernel) (Nat.le_of_ble_eq_true rfl)).trans ?_
    rfl
theorem s128_29 {L : Nat} {mi : Nat → Nat → Int32} {ml : Nat → Nat → Int64} {d : Nat} {Q : Option Value → xM → Prop} {x1 x2 x3 : Int32} {ry : Nat} {n_ry : Nat} (hS_ry : isStrip L ry n_ry) : X 128 29 [.ref 2, .int x1, .int x2, .int x3, xmk] [.ref ry, .ref 2] (SH L, mi, ml, MR) (d + 1) Q =
    Xm 147 [.ref 2, .ref ry] (SH L, mi, ml, MR) d (fun v μ' => X 128 32 [.ref 2, .int x1, .int x2, .int x3, xmk] (v.toList ++ []) μ' (d + 1) Q) := by
  refine (R_virt (i := 265) (f := 147) (kd := 0) (na := 1) (ml := 3) (ci := 9) (n := 12) (b := 2) (As := [.ref ry]) (rest := []) (by decide +kernel) (by decide +kernel) (by decide) (by decide +kernel) rfl (by decide +kernel) rfl rfl (by decide +kernel) (Nat.le_of_ble_eq_true rfl)).trans ?_
  rfl
theorem s128_29n {L : Nat} {mi : Nat → Nat → Int32} {ml : Nat → Nat → Int64} {d : Nat} {Q : Option Value → xM → Prop} {x1 x2 x3 : Int32} : X 128 29 [.ref 2, .int x1, .int x2, .int x3, xmk] [.null, .ref 2] (SH L, mi, ml, MR) (d + 1) Q =
    Xm 147 [.ref 2, .null] (SH L, mi, ml, MR) d (fun v μ' => X 128 32 [.ref 2, .int x1, .int x2, .int x3, xmk] (v.toList ++ []) μ' (d + 1) Q) := by
  refine (R_virt (i := 265) (f := 147) (kd := 0) (na := 1) (ml := 3) (ci := 9) (n := 12) (b := 2) (As := [.null]) (rest := []) (by decide +kernel) (by decide +kernel) (by decide) (by decide +kernel) rfl (by decide +kernel) rfl rfl (by decide +kernel) (Nat.le_of_ble_eq_true rfl)).trans ?_
  rfl
theorem s128_32 {L : Nat} {mi : Nat → Nat → Int32} {ml : Nat → Nat → Int64} {d : Nat} {Q : Option Value → xM → Prop} {x1 x2 x3 y : Int32} : X 128 32 [.ref 2, .int x1, .int x2, .int x3, xmk] [.int y] (SH L, mi, ml, MR) (d + 1) Q =
    if (y = 0) then (Xm 11 [.ref 62, .int x2] (SH L, mi, ml, MR) d (fun v μ' => X 128 52 [.ref 2, .int x1, .int x2, .int x3, .int y] (v.toList ++ []) μ' (d + 1) Q)) else (Q (some (.int y)) (SH L, mi, ml, MR)) := by
  refine (R_pure0 (ins := .istore 4) (len := 2) (loc' := [.ref 2, .int x1, .int x2, .int x3, .int y]) (st' := []) (by decide +kernel) (fun _ => rfl)).trans ?_
  refine (R_pure0 (ins := .iload 4) (len := 2) (loc' := [.ref 2, .int x1, .int x2, .int x3, .int y]) (st' := [.int y]) (by decide +kernel) (fun _ => rfl)).trans ?_
  refine (R_if_eq (off := 8) (t := 44) (by decide +kernel) (by decide +kernel)).trans (ite_congr rfl (fun c0 => ?_) (fun c0 => ?_))
  · refine (R_pure0 (ins := .aload_n 0) (len := 1) (loc' := [.ref 2, .int x1, .int x2, .int x3, .int y]) (st' := [.ref 2]) (by decide +kernel) (fun _ => rfl)).trans ?_
    refine (R_gr (i := 59) (ci := 9) (k := 7) (n := 12) (b := 62) (by decide +kernel) (by decide +kernel) (by decide) rfl (SH_ref (by decide +kernel))).trans ?_
    refine (R_pure0 (ins := .iload_n 2) (len := 1) (loc' := [.ref 2, .int x1, .int x2, .int x3, .int y]) (st' := [.int x2, .ref 62]) (by decide +kernel) (fun _ => rfl)).trans ?_
    refine (R_virt (i := 277) (f := 11) (kd := 0) (na := 1) (ml := 5) (ci := 1) (n := 2) (b := 62) (As := [.int x2]) (rest := []) (by decide +kernel) (by decide +kernel) (by decide) (by decide +kernel) rfl (by decide +kernel) rfl rfl (by decide +kernel) (Nat.le_of_ble_eq_true rfl)).trans ?_
    rfl
  · refine (R_pure0 (ins := .iload 4) (len := 2) (loc' := [.ref 2, .int x1, .int x2, .int x3, .int y]) (st' := [.int y]) (by decide +kernel) (fun _ => rfl)).trans ?_
    refine (R_goto (off := 11) (t := 52) (by decide +kernel) (by decide +kernel)).trans ?_
    exact R_ireturn (by decide +kernel) (by decide +kernel)
theorem s128_52 {L : Nat} {mi : Nat → Nat → Int32} {ml : Nat → Nat → Int64} {d : Nat} {Q : Option Value → xM → Prop} {x1 x2 x3 x4 y : Int32} : X 128 52 [.ref 2, .int x1, .int x2, .int x3, .int x4] [.int y] (SH L, mi, ml, MR) d Q =
    Q (some (.int y)) (SH L, mi, ml, MR) := by
  exact R_ireturn (by decide +kernel) (by decide +kernel)
theorem s129 {L : Nat} {mi : Nat → Nat → Int32} {ml : Nat → Nat → Int64} {d : Nat} {Q : Option Value → xM → Prop} {x1 x2 : Int32} : Xm 129 [.ref 2, .int x1, .int x2] (SH L, mi, ml, MR) (d + 1) Q =
    Xm 15 [.ref 38, .int x1] (SH L, mi, ml, MR) d (fun v μ' => X 129 8 [.ref 2, .int x1, .int x2, xmk, xmk] (v.toList ++ []) μ' (d + 1) Q) := by
  rw [Xm_ent (n := 5) (loc := [.ref 2, .int x1, .int x2, xmk, xmk]) (by decide +kernel) rfl]
  refine (R_pure0 (ins := .aload_n 0) (len := 1) (loc' := [.ref 2, .int x1, .int x2, xmk, xmk]) (st' := [.ref 2]) (by decide +kernel) (fun _ => rfl)).trans ?_
  refine (R_gr (i := 34) (ci := 9) (k := 4) (n := 12) (b := 38) (by decide +kernel) (by decide +kernel) (by decide) rfl (SH_ref (by decide +kernel))).trans ?_
  refine (R_pure0 (ins := .iload_n 1) (len := 1) (loc' := [.ref 2, .int x1, .int x2, xmk, xmk]) (st' := [.int x1, .ref 38]) (by decide +kernel) (fun _ => rfl)).trans ?_
  refine (R_virt (i := 136) (f := 15) (kd := 0) (na := 1) (ml := 2) (ci := 2) (n := 5) (b := 38) (As := [.int x1]) (rest := []) (by decide +kernel) (by decide +kernel) (by decide) (by decide +kernel) rfl (by decide +kernel) rfl rfl (by decide +kernel) (Nat.le_of_ble_eq_true rfl)).trans ?_
  rfl
theorem s129_8 {L : Nat} {mi : Nat → Nat → Int32} {ml : Nat → Nat → Int64} {d : Nat} {Q : Option Value → xM → Prop} {x1 x2 : Int32} {ry : Nat} (hS_ry : (SH L)[ry]? = some (4, 7)) : X 129 8 [.ref 2, .int x1, .int x2, xmk, xmk] [.ref ry] (SH L, mi, ml, MR) (d + 1) Q =
    Xm 82 [.ref 3, .int x2] (SH L, mi, ml, MR) d (fun v μ' => X 129 22 [.ref 2, .int x1, .int x2, xmk, xmk] (v.toList ++ [.ref 2]) μ' (d + 1) Q) := by
  refine (R_ifnonnull_r (off := 5) (t := 13) (by decide +kernel) (by decide +kernel)).trans ?_
  refine (R_pure0 (ins := .aload_n 0) (len := 1) (loc' := [.ref 2, .int x1, .int x2, xmk, xmk]) (st' := [.ref 2]) (by decide +kernel) (fun _ => rfl)).trans ?_
  refine (R_pure0 (ins := .aload_n 0) (len := 1) (loc' := [.ref 2, .int x1, .int x2, xmk, xmk]) (st' := [.ref 2, .ref 2]) (by decide +kernel) (fun _ => rfl)).trans ?_
  refine (R_gr (i := 14) (ci := 9) (k := 0) (n := 12) (b := 3) (by decide +kernel) (by decide +kernel) (by decide) rfl (SH_ref (by decide +kernel))).trans ?_
  refine (R_pure0 (ins := .iload_n 2) (len := 1) (loc' := [.ref 2, .int x1, .int x2, xmk, xmk]) (st' := [.int x2, .ref 3, .ref 2]) (by decide +kernel) (fun _ => rfl)).trans ?_
  refine (R_virt (i := 81) (f := 82) (kd := 0) (na := 1) (ml := 2) (ci := 7) (n := 1) (b := 3) (As := [.int x2]) (rest := [.ref 2]) (by decide +kernel) (by decide +kernel) (by decide) (by decide +kernel) rfl (by decide +kernel) rfl rfl (by decide +kernel) (Nat.le_of_ble_eq_true rfl)).trans ?_
  rfl
theorem s129_8n {L : Nat} {mi : Nat → Nat → Int32} {ml : Nat → Nat → Int64} {d : Nat} {Q : Option Value → xM → Prop} {x1 x2 : Int32} : X 129 8 [.ref 2, .int x1, .int x2, xmk, xmk] [.null] (SH L, mi, ml, MR) d Q =
    Q (some (.int (-1))) (SH L, mi, ml, MR) := by
  refine (R_ifnonnull_n (off := 5) (by decide +kernel)).trans ?_
  refine (R_iconst (n := (-1)) (v := (-1)) (by decide +kernel) (by decide +kernel)).trans ?_
  exact R_ireturn (by decide +kernel) (by decide +kernel)
theorem s129_22 {L : Nat} {mi : Nat → Nat → Int32} {ml : Nat → Nat → Int64} {d : Nat} {Q : Option Value → xM → Prop} {x1 x2 : Int32} {ry : Nat} {n_ry : Nat} (hS_ry : isStrip L ry n_ry) : X 129 22 [.ref 2, .int x1, .int x2, xmk, xmk] [.ref ry, .ref 2] (SH L, mi, ml, MR) (d + 1) Q =
    Xm 147 [.ref 2, .ref ry] (SH L, mi, ml, MR) d (fun v μ' => X 129 25 [.ref 2, .int x1, .int x2, xmk, xmk] (v.toList ++ []) μ' (d + 1) Q) := by
  refine (R_virt (i := 265) (f := 147) (kd := 0) (na := 1) (ml := 3) (ci := 9) (n := 12) (b := 2) (As := [.ref ry]) (rest := []) (by decide +kernel) (by decide +kernel) (by decide) (by decide +kernel) rfl (by decide +kernel) rfl rfl (by decide +kernel) (Nat.le_of_ble_eq_true rfl)).trans ?_
  rfl
theorem s129_22n {L : Nat} {mi : Nat → Nat → Int32} {ml : Nat → Nat → Int64} {d : Nat} {Q : Option Value → xM → Prop} {x1 x2 : Int32} : X 129 22 [.ref 2, .int x1, .int x2, xmk, xmk] [.null, .ref 2] (SH L, mi, ml, MR) (d + 1) Q =
    Xm 147 [.ref 2, .null] (SH L, mi, ml, MR) d (fun v μ' => X 129 25 [.ref 2, .int x1, .int x2, xmk, xmk] (v.toList ++ []) μ' (d + 1) Q) := by
  refine (R_virt (i := 265) (f := 147) (kd := 0) (na := 1) (ml := 3) (ci := 9) (n := 12) (b := 2) (As := [.null]) (rest := []) (by decide +kernel) (by decide +kernel) (by decide) (by decide +kernel) rfl (by decide +kernel) rfl rfl (by decide +kernel) (Nat.le_of_ble_eq_true rfl)).trans ?_
  rfl
theorem s129_25 {L : Nat} {mi : Nat → Nat → Int32} {ml : Nat → Nat → Int64} {d : Nat} {Q : Option Value → xM → Prop} {x1 x2 y : Int32} : X 129 25 [.ref 2, .int x1, .int x2, xmk, xmk] [.int y] (SH L, mi, ml, MR) (d + 1) Q =
    if (y = 0) then (Xm 13 [.ref 62] (SH L, mi, ml, MR) d (fun v μ' => X 129 39 [.ref 2, .int x1, .int x2, .int y, xmk] (v.toList ++ []) μ' (d + 1) Q)) else (Q (some (.int y)) (SH L, mi, ml, MR)) := by
  refine (R_pure0 (ins := .istore_n 3) (len := 1) (loc' := [.ref 2, .int x1, .int x2, .int y, xmk]) (st' := []) (by decide +kernel) (fun _ => rfl)).trans ?_
  refine (R_pure0 (ins := .iload_n 3) (len := 1) (loc' := [.ref 2, .int x1, .int x2, .int y, xmk]) (st' := [.int y]) (by decide +kernel) (fun _ => rfl)).trans ?_
  refine (R_if_eq (off := 5) (t := 32) (by decide +kernel) (by decide +kernel)).trans (ite_congr rfl (fun c0 => ?_) (fun c0 => ?_))
  · refine (R_pure0 (ins := .aload_n 0) (len := 1) (loc' := [.ref 2, .int x1, .int x2, .int y, xmk]) (st' := [.ref 2]) (by decide +kernel) (fun _ => rfl)).trans ?_
    refine (R_gr (i := 59) (ci := 9) (k := 7) (n := 12) (b := 62) (by decide +kernel) (by decide +kernel) (by decide) rfl (SH_ref (by decide +kernel))).trans ?_
    refine (R_virt (i := 280) (f := 13) (kd := 0) (na := 0) (ml := 5) (ci := 1) (n := 2) (b := 62) (As := []) (rest := []) (by decide +kernel) (by decide +kernel) (by decide) (by decide +kernel) rfl (by decide +kernel) rfl rfl (by decide +kernel) (Nat.le_of_ble_eq_true rfl)).trans ?_
    rfl
  · refine (R_pure0 (ins := .iload_n 3) (len := 1) (loc' := [.ref 2, .int x1, .int x2, .int y, xmk]) (st' := [.int y]) (by decide +kernel) (fun _ => rfl)).trans ?_
    exact R_ireturn (by decide +kernel) (by decide +kernel)
theorem s129_39 {L : Nat} {mi : Nat → Nat → Int32} {ml : Nat → Nat → Int64} {d : Nat} {Q : Option Value → xM → Prop} {x1 x2 x3 y : Int32} : X 129 39 [.ref 2, .int x1, .int x2, .int x3, xmk] [.int y] (SH L, mi, ml, MR) (d + 1) Q =
    if (y = (-9)) then (Q (some (.int y)) (SH L, mi, ml, MR)) else (Xm 12 [.ref 62, .int y] (SH L, mi, ml, MR) d (fun v μ' => X 129 58 [.ref 2, .int x1, .int x2, .int x3, .int y] (v.toList ++ [.ref 2]) μ' (d + 1) Q)) := by
  refine (R_pure0 (ins := .istore 4) (len := 2) (loc' := [.ref 2, .int x1, .int x2, .int x3, .int y]) (st' := []) (by decide +kernel) (fun _ => rfl)).trans ?_
  refine (R_pure0 (ins := .iload 4) (len := 2) (loc' := [.ref 2, .int x1, .int x2, .int x3, .int y]) (st' := [.int y]) (by decide +kernel) (fun _ => rfl)).trans ?_
  refine (R_bipush (n := (-9)) (v := (-9)) (by decide +kernel) (by decide +kernel)).trans ?_
  refine (R_icmp_eq (off := 16) (t := 61) (by decide +kernel) (by decide +kernel)).trans (ite_congr rfl (fun c0 => ?_) (fun c0 => ?_))
  · refine (R_pure0 (ins := .iload 4) (len := 2) (loc' := [.ref 2, .int x1, .int x2, .int x3, .int y]) (st' := [.int y]) (by decide +kernel) (fun _ => rfl)).trans ?_
    exact R_ireturn (by decide +kernel) (by decide +kernel)
  · refine (R_pure0 (ins := .aload_n 0) (len := 1) (loc' := [.ref 2, .int x1, .int x2, .int x3, .int y]) (st' := [.ref 2]) (by decide +kernel) (fun _ => rfl)).trans ?_
    refine (R_pure0 (ins := .aload_n 0) (len := 1) (loc' := [.ref 2, .int x1, .int x2, .int x3, .int y]) (st' := [.ref 2, .ref 2]) (by decide +kernel) (fun _ => rfl)).trans ?_
    refine (R_gr (i := 59) (ci := 9) (k := 7) (n := 12) (b := 62) (by decide +kernel) (by decide +kernel) (by decide) rfl (SH_ref (by decide +kernel))).trans ?_
    refine (R_pure0 (ins := .iload 4) (len := 2) (loc' := [.ref 2, .int x1, .int x2, .int x3, .int y]) (st' := [.int y, .ref 62, .ref 2]) (by decide +kernel) (fun _ => rfl)).trans ?_
    refine (R_virt (i := 283) (f := 12) (kd := 0) (na := 1) (ml := 6) (ci := 1) (n := 2) (b := 62) (As := [.int y]) (rest := [.ref 2]) (by decide +kernel) (by decide +kernel) (by decide) (by decide +kernel) rfl (by decide +kernel) rfl rfl (by decide +kernel) (Nat.le_of_ble_eq_true rfl)).trans ?_
    rfl
theorem s129_58 {L : Nat} {mi : Nat → Nat → Int32} {ml : Nat → Nat → Int64} {d : Nat} {Q : Option Value → xM → Prop} {x1 x2 x3 x4 y : Int32} : X 129 58 [.ref 2, .int x1, .int x2, .int x3, .int x4] [.int y, .ref 2] (SH L, mi, ml, MR) d Q =
    Q (some (.int x4)) (SH L, (xw mi 2 11 y), ml, MR) := by
  refine (R_pi (i := 78) (ci := 9) (k := 11) (n := 12) (by decide +kernel) (by decide +kernel) (by decide) rfl).trans ?_
  refine (R_pure0 (ins := .iload 4) (len := 2) (loc' := [.ref 2, .int x1, .int x2, .int x3, .int x4]) (st' := [.int x4]) (by decide +kernel) (fun _ => rfl)).trans ?_
  exact R_ireturn (by decide +kernel) (by decide +kernel)
theorem s130 {L : Nat} {mi : Nat → Nat → Int32} {ml : Nat → Nat → Int64} {d : Nat} {Q : Option Value → xM → Prop} {x1 : Int32} : Xm 130 [.ref 2, .int x1] (SH L, mi, ml, MR) (d + 1) Q =
    if (x1 < 0) then (Q (some (.int (-1))) (SH L, mi, ml, MR)) else (if ((5 : Int32) < x1) then (Q (some (.int (-1))) (SH L, mi, ml, MR)) else (Xm 17 [.ref 38] (SH L, mi, ml, MR) d (fun v μ' => X 130 18 [.ref 2, .int x1] (v.toList ++ []) μ' (d + 1) Q))) := by
  rw [Xm_ent (n := 2) (loc := [.ref 2, .int x1]) (by decide +kernel) rfl]
  refine (R_pure0 (ins := .iload_n 1) (len := 1) (loc' := [.ref 2, .int x1]) (st' := [.int x1]) (by decide +kernel) (fun _ => rfl)).trans ?_
  refine (R_if_lt (off := 8) (t := 9) (by decide +kernel) (by decide +kernel)).trans (ite_congr rfl (fun c0 => ?_) (fun c0 => ?_))
  · refine (R_iconst (n := (-1)) (v := (-1)) (by decide +kernel) (by decide +kernel)).trans ?_
    exact R_ireturn (by decide +kernel) (by decide +kernel)
  · refine (R_pure0 (ins := .iload_n 1) (len := 1) (loc' := [.ref 2, .int x1]) (st' := [.int x1]) (by decide +kernel) (fun _ => rfl)).trans ?_
    refine (R_iconst (n := 5) (v := 5) (by decide +kernel) (by decide +kernel)).trans ?_
    refine (R_icmp_le (off := 5) (t := 11) (by decide +kernel) (by decide +kernel)).trans (ite_congr rfl (fun c1 => ?_) (fun c1 => ?_))
    · refine (R_iconst (n := (-1)) (v := (-1)) (by decide +kernel) (by decide +kernel)).trans ?_
      exact R_ireturn (by decide +kernel) (by decide +kernel)
    · refine (R_pure0 (ins := .aload_n 0) (len := 1) (loc' := [.ref 2, .int x1]) (st' := [.ref 2]) (by decide +kernel) (fun _ => rfl)).trans ?_
      refine (R_gr (i := 34) (ci := 9) (k := 4) (n := 12) (b := 38) (by decide +kernel) (by decide +kernel) (by decide) rfl (SH_ref (by decide +kernel))).trans ?_
      refine (R_virt (i := 167) (f := 17) (kd := 0) (na := 0) (ml := 1) (ci := 2) (n := 5) (b := 38) (As := []) (rest := []) (by decide +kernel) (by decide +kernel) (by decide) (by decide +kernel) rfl (by decide +kernel) rfl rfl (by decide +kernel) (Nat.le_of_ble_eq_true rfl)).trans ?_
      rfl
theorem s130_18 {L : Nat} {mi : Nat → Nat → Int32} {ml : Nat → Nat → Int64} {d : Nat} {Q : Option Value → xM → Prop} {x1 y : Int32} : X 130 18 [.ref 2, .int x1] [.int y] (SH L, mi, ml, MR) (d + 1) Q =
    if (y = 0) then (Xm 34 [.ref 48] (SH L, mi, ml, MR) d (fun v μ' => X 130 31 [.ref 2, .int x1] (v.toList ++ []) μ' (d + 1) Q)) else (Q (some (.int (-4))) (SH L, mi, ml, MR)) := by
  refine (R_if_eq (off := 6) (t := 24) (by decide +kernel) (by decide +kernel)).trans (ite_congr rfl (fun c0 => ?_) (fun c0 => ?_))
  · refine (R_pure0 (ins := .aload_n 0) (len := 1) (loc' := [.ref 2, .int x1]) (st' := [.ref 2]) (by decide +kernel) (fun _ => rfl)).trans ?_
    refine (R_gr (i := 43) (ci := 9) (k := 5) (n := 12) (b := 48) (by decide +kernel) (by decide +kernel) (by decide) rfl (SH_ref (by decide +kernel))).trans ?_
    refine (R_virt (i := 215) (f := 34) (kd := 0) (na := 0) (ml := 3) (ci := 3) (n := 3) (b := 48) (As := []) (rest := []) (by decide +kernel) (by decide +kernel) (by decide) (by decide +kernel) rfl (by decide +kernel) rfl rfl (by decide +kernel) (Nat.le_of_ble_eq_true rfl)).trans ?_
    rfl
  · refine (R_bipush (n := (-4)) (v := (-4)) (by decide +kernel) (by decide +kernel)).trans ?_
    exact R_ireturn (by decide +kernel) (by decide +kernel)
theorem s130_31 {L : Nat} {mi : Nat → Nat → Int32} {ml : Nat → Nat → Int64} {d : Nat} {Q : Option Value → xM → Prop} {x1 : Int32} : X 130 31 [.ref 2, .int x1] [] (SH L, mi, ml, MR) (d + 1) Q =
    Xm 42 [.ref 48, .int x1] (SH L, mi, ml, MR) d (fun v μ' => X 130 39 [.ref 2, .int x1] (v.toList ++ []) μ' (d + 1) Q) := by
  refine (R_pure0 (ins := .aload_n 0) (len := 1) (loc' := [.ref 2, .int x1]) (st' := [.ref 2]) (by decide +kernel) (fun _ => rfl)).trans ?_
  refine (R_gr (i := 43) (ci := 9) (k := 5) (n := 12) (b := 48) (by decide +kernel) (by decide +kernel) (by decide) rfl (SH_ref (by decide +kernel))).trans ?_
  refine (R_pure0 (ins := .iload_n 1) (len := 1) (loc' := [.ref 2, .int x1]) (st' := [.int x1, .ref 48]) (by decide +kernel) (fun _ => rfl)).trans ?_
  refine (R_virt (i := 286) (f := 42) (kd := 0) (na := 1) (ml := 2) (ci := 3) (n := 3) (b := 48) (As := [.int x1]) (rest := []) (by decide +kernel) (by decide +kernel) (by decide) (by decide +kernel) rfl (by decide +kernel) rfl rfl (by decide +kernel) (Nat.le_of_ble_eq_true rfl)).trans ?_
  rfl
theorem s130_39 {L : Nat} {mi : Nat → Nat → Int32} {ml : Nat → Nat → Int64} {d : Nat} {Q : Option Value → xM → Prop} {x1 y : Int32} : X 130 39 [.ref 2, .int x1] [.int y] (SH L, mi, ml, MR) d Q =
    Q (some (.int y)) (SH L, mi, ml, MR) := by
  exact R_ireturn (by decide +kernel) (by decide +kernel)
theorem s131 {L : Nat} {mi : Nat → Nat → Int32} {ml : Nat → Nat → Int64} {d : Nat} {Q : Option Value → xM → Prop} {x1 x2 : Int32} : Xm 131 [.ref 2, .int x1, .int x2] (SH L, mi, ml, MR) (d + 1) Q =
    if (x1 < 0) then (Q (some (.int (-1))) (SH L, mi, ml, MR)) else (if ((6 : Int32) < x1) then (Q (some (.int (-1))) (SH L, mi, ml, MR)) else (if (x2 < 0) then (Q (some (.int (-1))) (SH L, mi, ml, MR)) else (if ((12 : Int32) < x2) then (Q (some (.int (-1))) (SH L, mi, ml, MR)) else (Xm 17 [.ref 38] (SH L, mi, ml, MR) d (fun v μ' => X 131 29 [.ref 2, .int x1, .int x2] (v.toList ++ []) μ' (d + 1) Q))))) := by
  rw [Xm_ent (n := 3) (loc := [.ref 2, .int x1, .int x2]) (by decide +kernel) rfl]
  refine (R_pure0 (ins := .iload_n 1) (len := 1) (loc' := [.ref 2, .int x1, .int x2]) (st' := [.int x1]) (by decide +kernel) (fun _ => rfl)).trans ?_
  refine (R_if_lt (off := 19) (t := 20) (by decide +kernel) (by decide +kernel)).trans (ite_congr rfl (fun c0 => ?_) (fun c0 => ?_))
  · refine (R_iconst (n := (-1)) (v := (-1)) (by decide +kernel) (by decide +kernel)).trans ?_
    exact R_ireturn (by decide +kernel) (by decide +kernel)
  · refine (R_pure0 (ins := .iload_n 1) (len := 1) (loc' := [.ref 2, .int x1, .int x2]) (st' := [.int x1]) (by decide +kernel) (fun _ => rfl)).trans ?_
    refine (R_bipush (n := 6) (v := 6) (by decide +kernel) (by decide +kernel)).trans ?_
    refine (R_icmp_gt (off := 13) (t := 20) (by decide +kernel) (by decide +kernel)).trans (ite_congr rfl (fun c1 => ?_) (fun c1 => ?_))
    · refine (R_iconst (n := (-1)) (v := (-1)) (by decide +kernel) (by decide +kernel)).trans ?_
      exact R_ireturn (by decide +kernel) (by decide +kernel)
    · refine (R_pure0 (ins := .iload_n 2) (len := 1) (loc' := [.ref 2, .int x1, .int x2]) (st' := [.int x2]) (by decide +kernel) (fun _ => rfl)).trans ?_
      refine (R_if_lt (off := 9) (t := 20) (by decide +kernel) (by decide +kernel)).trans (ite_congr rfl (fun c2 => ?_) (fun c2 => ?_))
      · refine (R_iconst (n := (-1)) (v := (-1)) (by decide +kernel) (by decide +kernel)).trans ?_
        exact R_ireturn (by decide +kernel) (by decide +kernel)
      · refine (R_pure0 (ins := .iload_n 2) (len := 1) (loc' := [.ref 2, .int x1, .int x2]) (st' := [.int x2]) (by decide +kernel) (fun _ => rfl)).trans ?_
        refine (R_bipush (n := 12) (v := 12) (by decide +kernel) (by decide +kernel)).trans ?_
        refine (R_icmp_le (off := 5) (t := 22) (by decide +kernel) (by decide +kernel)).trans (ite_congr rfl (fun c3 => ?_) (fun c3 => ?_))
        · refine (R_iconst (n := (-1)) (v := (-1)) (by decide +kernel) (by decide +kernel)).trans ?_
          exact R_ireturn (by decide +kernel) (by decide +kernel)
        · refine (R_pure0 (ins := .aload_n 0) (len := 1) (loc' := [.ref 2, .int x1, .int x2]) (st' := [.ref 2]) (by decide +kernel) (fun _ => rfl)).trans ?_
          refine (R_gr (i := 34) (ci := 9) (k := 4) (n := 12) (b := 38) (by decide +kernel) (by decide +kernel) (by decide) rfl (SH_ref (by decide +kernel))).trans ?_
          refine (R_virt (i := 167) (f := 17) (kd := 0) (na := 0) (ml := 1) (ci := 2) (n := 5) (b := 38) (As := []) (rest := []) (by decide +kernel) (by decide +kernel) (by decide) (by decide +kernel) rfl (by decide +kernel) rfl rfl (by decide +kernel) (Nat.le_of_ble_eq_true rfl)).trans ?_
          rfl
theorem s131_29 {L : Nat} {mi : Nat → Nat → Int32} {ml : Nat → Nat → Int64} {d : Nat} {Q : Option Value → xM → Prop} {x1 x2 y : Int32} : X 131 29 [.ref 2, .int x1, .int x2] [.int y] (SH L, mi, ml, MR) (d + 1) Q =
    if (y = 0) then (Xm 34 [.ref 48] (SH L, mi, ml, MR) d (fun v μ' => X 131 42 [.ref 2, .int x1, .int x2] (v.toList ++ []) μ' (d + 1) Q)) else (Q (some (.int (-4))) (SH L, mi, ml, MR)) := by
  refine (R_if_eq (off := 6) (t := 35) (by decide +kernel) (by decide +kernel)).trans (ite_congr rfl (fun c0 => ?_) (fun c0 => ?_))
  · refine (R_pure0 (ins := .aload_n 0) (len := 1) (loc' := [.ref 2, .int x1, .int x2]) (st' := [.ref 2]) (by decide +kernel) (fun _ => rfl)).trans ?_
    refine (R_gr (i := 43) (ci := 9) (k := 5) (n := 12) (b := 48) (by decide +kernel) (by decide +kernel) (by decide) rfl (SH_ref (by decide +kernel))).trans ?_
    refine (R_virt (i := 215) (f := 34) (kd := 0) (na := 0) (ml := 3) (ci := 3) (n := 3) (b := 48) (As := []) (rest := []) (by decide +kernel) (by decide +kernel) (by decide) (by decide +kernel) rfl (by decide +kernel) rfl rfl (by decide +kernel) (Nat.le_of_ble_eq_true rfl)).trans ?_
    rfl
  · refine (R_bipush (n := (-4)) (v := (-4)) (by decide +kernel) (by decide +kernel)).trans ?_
    exact R_ireturn (by decide +kernel) (by decide +kernel)
theorem s131_42 {L : Nat} {mi : Nat → Nat → Int32} {ml : Nat → Nat → Int64} {d : Nat} {Q : Option Value → xM → Prop} {x1 x2 : Int32} : X 131 42 [.ref 2, .int x1, .int x2] [] (SH L, mi, ml, MR) (d + 1) Q =
    Xm 2 [.ref 65, .ref 48, .int x1, .int x2] (SH L, mi, ml, MR) d (fun v μ' => X 131 55 [.ref 2, .int x1, .int x2] (v.toList ++ []) μ' (d + 1) Q) := by
  refine (R_pure0 (ins := .aload_n 0) (len := 1) (loc' := [.ref 2, .int x1, .int x2]) (st' := [.ref 2]) (by decide +kernel) (fun _ => rfl)).trans ?_
  refine (R_gr (i := 66) (ci := 9) (k := 8) (n := 12) (b := 65) (by decide +kernel) (by decide +kernel) (by decide) rfl (SH_ref (by decide +kernel))).trans ?_
  refine (R_pure0 (ins := .aload_n 0) (len := 1) (loc' := [.ref 2, .int x1, .int x2]) (st' := [.ref 2, .ref 65]) (by decide +kernel) (fun _ => rfl)).trans ?_
  refine (R_gr (i := 43) (ci := 9) (k := 5) (n := 12) (b := 48) (by decide +kernel) (by decide +kernel) (by decide) rfl (SH_ref (by decide +kernel))).trans ?_
  refine (R_pure0 (ins := .iload_n 1) (len := 1) (loc' := [.ref 2, .int x1, .int x2]) (st' := [.int x1, .ref 48, .ref 65]) (by decide +kernel) (fun _ => rfl)).trans ?_
  refine (R_pure0 (ins := .iload_n 2) (len := 1) (loc' := [.ref 2, .int x1, .int x2]) (st' := [.int x2, .int x1, .ref 48, .ref 65]) (by decide +kernel) (fun _ => rfl)).trans ?_
  refine (R_virt (i := 289) (f := 2) (kd := 0) (na := 3) (ml := 8) (ci := 0) (n := 3) (b := 65) (As := [.ref 48, .int x1, .int x2]) (rest := []) (by decide +kernel) (by decide +kernel) (by decide) (by decide +kernel) rfl (by decide +kernel) rfl rfl (by decide +kernel) (Nat.le_of_ble_eq_true rfl)).trans ?_
  rfl
theorem s131_55 {L : Nat} {mi : Nat → Nat → Int32} {ml : Nat → Nat → Int64} {d : Nat} {Q : Option Value → xM → Prop} {x1 x2 : Int32} : X 131 55 [.ref 2, .int x1, .int x2] [] (SH L, mi, ml, MR) d Q =
    Q (some (.int 1)) (SH L, mi, ml, MR) := by
  refine (R_iconst (n := 1) (v := 1) (by decide +kernel) (by decide +kernel)).trans ?_
  exact R_ireturn (by decide +kernel) (by decide +kernel)
theorem s132 {L : Nat} {mi : Nat → Nat → Int32} {ml : Nat → Nat → Int64} {d : Nat} {Q : Option Value → xM → Prop} {x1 : Int32} : Xm 132 [.ref 2, .int x1] (SH L, mi, ml, MR) (d + 1) Q =
    if (x1 < 0) then (Q (some (.int (-1))) (SH L, mi, ml, MR)) else (if ((12 : Int32) < x1) then (Q (some (.int (-1))) (SH L, mi, ml, MR)) else (Xm 17 [.ref 38] (SH L, mi, ml, MR) d (fun v μ' => X 132 19 [.ref 2, .int x1] (v.toList ++ []) μ' (d + 1) Q))) := by
  rw [Xm_ent (n := 2) (loc := [.ref 2, .int x1]) (by decide +kernel) rfl]
  refine (R_pure0 (ins := .iload_n 1) (len := 1) (loc' := [.ref 2, .int x1]) (st' := [.int x1]) (by decide +kernel) (fun _ => rfl)).trans ?_
  refine (R_if_lt (off := 9) (t := 10) (by decide +kernel) (by decide +kernel)).trans (ite_congr rfl (fun c0 => ?_) (fun c0 => ?_))
  · refine (R_iconst (n := (-1)) (v := (-1)) (by decide +kernel) (by decide +kernel)).trans ?_
    exact R_ireturn (by decide +kernel) (by decide +kernel)
  · refine (R_pure0 (ins := .iload_n 1) (len := 1) (loc' := [.ref 2, .int x1]) (st' := [.int x1]) (by decide +kernel) (fun _ => rfl)).trans ?_
    refine (R_bipush (n := 12) (v := 12) (by decide +kernel) (by decide +kernel)).trans ?_
    refine (R_icmp_le (off := 5) (t := 12) (by decide +kernel) (by decide +kernel)).trans (ite_congr rfl (fun c1 => ?_) (fun c1 => ?_))
    · refine (R_iconst (n := (-1)) (v := (-1)) (by decide +kernel) (by decide +kernel)).trans ?_
      exact R_ireturn (by decide +kernel) (by decide +kernel)
    · refine (R_pure0 (ins := .aload_n 0) (len := 1) (loc' := [.ref 2, .int x1]) (st' := [.ref 2]) (by decide +kernel) (fun _ => rfl)).trans ?_
      refine (R_gr (i := 34) (ci := 9) (k := 4) (n := 12) (b := 38) (by decide +kernel) (by decide +kernel) (by decide) rfl (SH_ref (by decide +kernel))).trans ?_
      refine (R_virt (i := 167) (f := 17) (kd := 0) (na := 0) (ml := 1) (ci := 2) (n := 5) (b := 38) (As := []) (rest := []) (by decide +kernel) (by decide +kernel) (by decide) (by decide +kernel) rfl (by decide +kernel) rfl rfl (by decide +kernel) (Nat.le_of_ble_eq_true rfl)).trans ?_
      rfl
theorem s132_19 {L : Nat} {mi : Nat → Nat → Int32} {ml : Nat → Nat → Int64} {d : Nat} {Q : Option Value → xM → Prop} {x1 y : Int32} : X 132 19 [.ref 2, .int x1] [.int y] (SH L, mi, ml, MR) (d + 1) Q =
    if (y = 0) then (Xm 34 [.ref 48] (SH L, mi, ml, MR) d (fun v μ' => X 132 32 [.ref 2, .int x1] (v.toList ++ []) μ' (d + 1) Q)) else (Q (some (.int (-4))) (SH L, mi, ml, MR)) := by
  refine (R_if_eq (off := 6) (t := 25) (by decide +kernel) (by decide +kernel)).trans (ite_congr rfl (fun c0 => ?_) (fun c0 => ?_))
  · refine (R_pure0 (ins := .aload_n 0) (len := 1) (loc' := [.ref 2, .int x1]) (st' := [.ref 2]) (by decide +kernel) (fun _ => rfl)).trans ?_
    refine (R_gr (i := 43) (ci := 9) (k := 5) (n := 12) (b := 48) (by decide +kernel) (by decide +kernel) (by decide) rfl (SH_ref (by decide +kernel))).trans ?_
    refine (R_virt (i := 215) (f := 34) (kd := 0) (na := 0) (ml := 3) (ci := 3) (n := 3) (b := 48) (As := []) (rest := []) (by decide +kernel) (by decide +kernel) (by decide) (by decide +kernel) rfl (by decide +kernel) rfl rfl (by decide +kernel) (Nat.le_of_ble_eq_true rfl)).trans ?_
    rfl
  · refine (R_bipush (n := (-4)) (v := (-4)) (by decide +kernel) (by decide +kernel)).trans ?_
    exact R_ireturn (by decide +kernel) (by decide +kernel)
theorem s132_32 {L : Nat} {mi : Nat → Nat → Int32} {ml : Nat → Nat → Int64} {d : Nat} {Q : Option Value → xM → Prop} {x1 : Int32} : X 132 32 [.ref 2, .int x1] [] (SH L, mi, ml, MR) (d + 1) Q =
    Xm 3 [.ref 65, .ref 48, .int x1] (SH L, mi, ml, MR) d (fun v μ' => X 132 44 [.ref 2, .int x1] (v.toList ++ []) μ' (d + 1) Q) := by
  refine (R_pure0 (ins := .aload_n 0) (len := 1) (loc' := [.ref 2, .int x1]) (st' := [.ref 2]) (by decide +kernel) (fun _ => rfl)).trans ?_
  refine (R_gr (i := 66) (ci := 9) (k := 8) (n := 12) (b := 65) (by decide +kernel) (by decide +kernel) (by decide) rfl (SH_ref (by decide +kernel))).trans ?_
  refine (R_pure0 (ins := .aload_n 0) (len := 1) (loc' := [.ref 2, .int x1]) (st' := [.ref 2, .ref 65]) (by decide +kernel) (fun _ => rfl)).trans ?_
  refine (R_gr (i := 43) (ci := 9) (k := 5) (n := 12) (b := 48) (by decide +kernel) (by decide +kernel) (by decide) rfl (SH_ref (by decide +kernel))).trans ?_
  refine (R_pure0 (ins := .iload_n 1) (len := 1) (loc' := [.ref 2, .int x1]) (st' := [.int x1, .ref 48, .ref 65]) (by decide +kernel) (fun _ => rfl)).trans ?_
  refine (R_virt (i := 293) (f := 3) (kd := 0) (na := 2) (ml := 10) (ci := 0) (n := 3) (b := 65) (As := [.ref 48, .int x1]) (rest := []) (by decide +kernel) (by decide +kernel) (by decide) (by decide +kernel) rfl (by decide +kernel) rfl rfl (by decide +kernel) (Nat.le_of_ble_eq_true rfl)).trans ?_
  rfl
theorem s132_44 {L : Nat} {mi : Nat → Nat → Int32} {ml : Nat → Nat → Int64} {d : Nat} {Q : Option Value → xM → Prop} {x1 : Int32} : X 132 44 [.ref 2, .int x1] [] (SH L, mi, ml, MR) d Q =
    Q (some (.int 1)) (SH L, mi, ml, MR) := by
  refine (R_iconst (n := 1) (v := 1) (by decide +kernel) (by decide +kernel)).trans ?_
  exact R_ireturn (by decide +kernel) (by decide +kernel)
theorem s133 {L : Nat} {mi : Nat → Nat → Int32} {ml : Nat → Nat → Int64} {d : Nat} {Q : Option Value → xM → Prop} {x1 x2 : Int32} : Xm 133 [.ref 2, .int x1, .int x2] (SH L, mi, ml, MR) (d + 1) Q =
    if (x1 < 1) then (Q (some (.int (-1))) (SH L, mi, ml, MR)) else (if ((20 : Int32) < x1) then (Q (some (.int (-1))) (SH L, mi, ml, MR)) else (if (x2 < 1) then (Q (some (.int (-1))) (SH L, mi, ml, MR)) else (if ((lg_cmp x2.toInt64 2147483647) < 0) then (Xm 17 [.ref 38] (SH L, mi, ml, MR) d (fun v μ' => X 133 34 [.ref 2, .int x1, .int x2] (v.toList ++ []) μ' (d + 1) Q)) else (Q (some (.int (-1))) (SH L, mi, ml, MR))))) := by
  rw [Xm_ent (n := 3) (loc := [.ref 2, .int x1, .int x2]) (by decide +kernel) rfl]
  refine (R_pure0 (ins := .iload_n 1) (len := 1) (loc' := [.ref 2, .int x1, .int x2]) (st' := [.int x1]) (by decide +kernel) (fun _ => rfl)).trans ?_
  refine (R_iconst (n := 1) (v := 1) (by decide +kernel) (by decide +kernel)).trans ?_
  refine (R_icmp_lt (off := 23) (t := 25) (by decide +kernel) (by decide +kernel)).trans (ite_congr rfl (fun c0 => ?_) (fun c0 => ?_))
  · refine (R_iconst (n := (-1)) (v := (-1)) (by decide +kernel) (by decide +kernel)).trans ?_
    exact R_ireturn (by decide +kernel) (by decide +kernel)
  · refine (R_pure0 (ins := .iload_n 1) (len := 1) (loc' := [.ref 2, .int x1, .int x2]) (st' := [.int x1]) (by decide +kernel) (fun _ => rfl)).trans ?_
    refine (R_bipush (n := 20) (v := 20) (by decide +kernel) (by decide +kernel)).trans ?_
    refine (R_icmp_gt (off := 17) (t := 25) (by decide +kernel) (by decide +kernel)).trans (ite_congr rfl (fun c1 => ?_) (fun c1 => ?_))
    · refine (R_iconst (n := (-1)) (v := (-1)) (by decide +kernel) (by decide +kernel)).trans ?_
      exact R_ireturn (by decide +kernel) (by decide +kernel)
    · refine (R_pure0 (ins := .iload_n 2) (len := 1) (loc' := [.ref 2, .int x1, .int x2]) (st' := [.int x2]) (by decide +kernel) (fun _ => rfl)).trans ?_
      refine (R_iconst (n := 1) (v := 1) (by decide +kernel) (by decide +kernel)).trans ?_
      refine (R_icmp_lt (off := 12) (t := 25) (by decide +kernel) (by decide +kernel)).trans (ite_congr rfl (fun c2 => ?_) (fun c2 => ?_))
      · refine (R_iconst (n := (-1)) (v := (-1)) (by decide +kernel) (by decide +kernel)).trans ?_
        exact R_ireturn (by decide +kernel) (by decide +kernel)
      · refine (R_pure0 (ins := .iload_n 2) (len := 1) (loc' := [.ref 2, .int x1, .int x2]) (st' := [.int x2]) (by decide +kernel) (fun _ => rfl)).trans ?_
        refine (R_pure0 (ins := .i2l) (len := 1) (loc' := [.ref 2, .int x1, .int x2]) (st' := [.long x2.toInt64]) (by decide +kernel) (fun _ => rfl)).trans ?_
        refine (R_ldc2 (i := 297) (v := 2147483647) (by decide +kernel) (by decide +kernel)).trans ?_
        refine (R_pure0 (ins := .lcmp) (len := 1) (loc' := [.ref 2, .int x1, .int x2]) (st' := [.int (lg_cmp x2.toInt64 2147483647)]) (by decide +kernel) (fun _ => rfl)).trans ?_
        refine (R_if_lt (off := 5) (t := 27) (by decide +kernel) (by decide +kernel)).trans (ite_congr rfl (fun c3 => ?_) (fun c3 => ?_))
        · refine (R_pure0 (ins := .aload_n 0) (len := 1) (loc' := [.ref 2, .int x1, .int x2]) (st' := [.ref 2]) (by decide +kernel) (fun _ => rfl)).trans ?_
          refine (R_gr (i := 34) (ci := 9) (k := 4) (n := 12) (b := 38) (by decide +kernel) (by decide +kernel) (by decide) rfl (SH_ref (by decide +kernel))).trans ?_
          refine (R_virt (i := 167) (f := 17) (kd := 0) (na := 0) (ml := 1) (ci := 2) (n := 5) (b := 38) (As := []) (rest := []) (by decide +kernel) (by decide +kernel) (by decide) (by decide +kernel) rfl (by decide +kernel) rfl rfl (by decide +kernel) (Nat.le_of_ble_eq_true rfl)).trans ?_
          rfl
        · refine (R_iconst (n := (-1)) (v := (-1)) (by decide +kernel) (by decide +kernel)).trans ?_
          exact R_ireturn (by decide +kernel) (by decide +kernel)
theorem s133_34 {L : Nat} {mi : Nat → Nat → Int32} {ml : Nat → Nat → Int64} {d : Nat} {Q : Option Value → xM → Prop} {x1 x2 y : Int32} : X 133 34 [.ref 2, .int x1, .int x2] [.int y] (SH L, mi, ml, MR) (d + 1) Q =
    if (y = 0) then (Xm 22 [.ref 38, .int x1] (SH L, mi, ml, MR) d (fun v μ' => X 133 48 [.ref 2, .int x1, .int x2] (v.toList ++ []) μ' (d + 1) Q)) else (Q (some (.int (-4))) (SH L, mi, ml, MR)) := by
  refine (R_if_eq (off := 6) (t := 40) (by decide +kernel) (by decide +kernel)).trans (ite_congr rfl (fun c0 => ?_) (fun c0 => ?_))
  · refine (R_pure0 (ins := .aload_n 0) (len := 1) (loc' := [.ref 2, .int x1, .int x2]) (st' := [.ref 2]) (by decide +kernel) (fun _ => rfl)).trans ?_
    refine (R_gr (i := 34) (ci := 9) (k := 4) (n := 12) (b := 38) (by decide +kernel) (by decide +kernel) (by decide) rfl (SH_ref (by decide +kernel))).trans ?_
    refine (R_pure0 (ins := .iload_n 1) (len := 1) (loc' := [.ref 2, .int x1, .int x2]) (st' := [.int x1, .ref 38]) (by decide +kernel) (fun _ => rfl)).trans ?_
    refine (R_virt (i := 170) (f := 22) (kd := 0) (na := 1) (ml := 2) (ci := 2) (n := 5) (b := 38) (As := [.int x1]) (rest := []) (by decide +kernel) (by decide +kernel) (by decide) (by decide +kernel) rfl (by decide +kernel) rfl rfl (by decide +kernel) (Nat.le_of_ble_eq_true rfl)).trans ?_
    rfl
  · refine (R_bipush (n := (-4)) (v := (-4)) (by decide +kernel) (by decide +kernel)).trans ?_
    exact R_ireturn (by decide +kernel) (by decide +kernel)
theorem s133_48 {L : Nat} {mi : Nat → Nat → Int32} {ml : Nat → Nat → Int64} {d : Nat} {Q : Option Value → xM → Prop} {x1 x2 y : Int32} : X 133 48 [.ref 2, .int x1, .int x2] [.int y] (SH L, mi, ml, MR) (d + 1) Q =
    if (y = 0) then (Xm 28 [.ref 38, .int x1, .int x2] (SH L, mi, ml, MR) d (fun v μ' => X 133 63 [.ref 2, .int x1, .int x2] (v.toList ++ []) μ' (d + 1) Q)) else (Q (some (.int (-2))) (SH L, mi, ml, MR)) := by
  refine (R_if_eq (off := 6) (t := 54) (by decide +kernel) (by decide +kernel)).trans (ite_congr rfl (fun c0 => ?_) (fun c0 => ?_))
  · refine (R_pure0 (ins := .aload_n 0) (len := 1) (loc' := [.ref 2, .int x1, .int x2]) (st' := [.ref 2]) (by decide +kernel) (fun _ => rfl)).trans ?_
    refine (R_gr (i := 34) (ci := 9) (k := 4) (n := 12) (b := 38) (by decide +kernel) (by decide +kernel) (by decide) rfl (SH_ref (by decide +kernel))).trans ?_
    refine (R_pure0 (ins := .iload_n 1) (len := 1) (loc' := [.ref 2, .int x1, .int x2]) (st' := [.int x1, .ref 38]) (by decide +kernel) (fun _ => rfl)).trans ?_
    refine (R_pure0 (ins := .iload_n 2) (len := 1) (loc' := [.ref 2, .int x1, .int x2]) (st' := [.int x2, .int x1, .ref 38]) (by decide +kernel) (fun _ => rfl)).trans ?_
    refine (R_virt (i := 299) (f := 28) (kd := 0) (na := 2) (ml := 9) (ci := 2) (n := 5) (b := 38) (As := [.int x1, .int x2]) (rest := []) (by decide +kernel) (by decide +kernel) (by decide) (by decide +kernel) rfl (by decide +kernel) rfl rfl (by decide +kernel) (Nat.le_of_ble_eq_true rfl)).trans ?_
    rfl
  · refine (R_bipush (n := (-2)) (v := (-2)) (by decide +kernel) (by decide +kernel)).trans ?_
    exact R_ireturn (by decide +kernel) (by decide +kernel)
theorem s133_63 {L : Nat} {mi : Nat → Nat → Int32} {ml : Nat → Nat → Int64} {d : Nat} {Q : Option Value → xM → Prop} {x1 x2 y : Int32} : X 133 63 [.ref 2, .int x1, .int x2] [.int y] (SH L, mi, ml, MR) d Q =
    Q (some (.int y)) (SH L, mi, ml, MR) := by
  exact R_ireturn (by decide +kernel) (by decide +kernel)
theorem s134 {L : Nat} {mi : Nat → Nat → Int32} {ml : Nat → Nat → Int64} {d : Nat} {Q : Option Value → xM → Prop} : Xm 134 [.ref 2] (SH L, mi, ml, MR) d Q =
    Q (some (.int (mi 2 11))) (SH L, mi, ml, MR) := by
  rw [Xm_ent (n := 1) (loc := [.ref 2]) (by decide +kernel) rfl]
  refine (R_pure0 (ins := .aload_n 0) (len := 1) (loc' := [.ref 2]) (st' := [.ref 2]) (by decide +kernel) (fun _ => rfl)).trans ?_
  refine (R_gi (i := 78) (ci := 9) (k := 11) (n := 12) (by decide +kernel) (by decide +kernel) (by decide) rfl).trans ?_
  exact R_ireturn (by decide +kernel) (by decide +kernel)
theorem s135 {L : Nat} {mi : Nat → Nat → Int32} {ml : Nat → Nat → Int64} {d : Nat} {Q : Option Value → xM → Prop} : Xm 135 [.ref 2] (SH L, mi, ml, MR) d Q =
    Q (some (.long (ml 65 1))) (SH L, mi, ml, MR) := by
  rw [Xm_ent (n := 1) (loc := [.ref 2]) (by decide +kernel) rfl]
  refine (R_pure0 (ins := .aload_n 0) (len := 1) (loc' := [.ref 2]) (st' := [.ref 2]) (by decide +kernel) (fun _ => rfl)).trans ?_
  refine (R_gr (i := 66) (ci := 9) (k := 8) (n := 12) (b := 65) (by decide +kernel) (by decide +kernel) (by decide) rfl (SH_ref (by decide +kernel))).trans ?_
  refine (R_gl (i := 302) (ci := 0) (k := 1) (n := 3) (by decide +kernel) (by decide +kernel) (by decide) rfl).trans ?_
  exact R_lreturn (by decide +kernel) (by decide +kernel)
theorem s136 {L : Nat} {mi : Nat → Nat → Int32} {ml : Nat → Nat → Int64} {d : Nat} {Q : Option Value → xM → Prop} : Xm 136 [.ref 2] (SH L, mi, ml, MR) d Q =
    Q (some (.long (ml 65 2))) (SH L, mi, ml, MR) := by
  rw [Xm_ent (n := 1) (loc := [.ref 2]) (by decide +kernel) rfl]
  refine (R_pure0 (ins := .aload_n 0) (len := 1) (loc' := [.ref 2]) (st' := [.ref 2]) (by decide +kernel) (fun _ => rfl)).trans ?_
  refine (R_gr (i := 66) (ci := 9) (k := 8) (n := 12) (b := 65) (by decide +kernel) (by decide +kernel) (by decide) rfl (SH_ref (by decide +kernel))).trans ?_
  refine (R_gl (i := 306) (ci := 0) (k := 2) (n := 3) (by decide +kernel) (by decide +kernel) (by decide) rfl).trans ?_
  exact R_lreturn (by decide +kernel) (by decide +kernel)
theorem s137 {L : Nat} {mi : Nat → Nat → Int32} {ml : Nat → Nat → Int64} {d : Nat} {Q : Option Value → xM → Prop} {x1 : Int32} : Xm 137 [.ref 2, .int x1] (SH L, mi, ml, MR) (d + 1) Q =
    if (x1 = 0) then (Xm 16 [.ref 38] (SH L, mi, ml, MR) d (fun v μ' => X 137 67 [.ref 2, .int x1] (v.toList ++ []) μ' (d + 1) Q)) else (if (x1 = 1) then (Xm 18 [.ref 38] (SH L, mi, ml, MR) d (fun v μ' => X 137 75 [.ref 2, .int x1] (v.toList ++ []) μ' (d + 1) Q)) else (if (x1 = 2) then (Xm 20 [.ref 38] (SH L, mi, ml, MR) d (fun v μ' => X 137 83 [.ref 2, .int x1] (v.toList ++ []) μ' (d + 1) Q)) else (if (x1 = 3) then (Xm 31 [.ref 38, .int 5] (SH L, mi, ml, MR) d (fun v μ' => X 137 95 [.ref 2, .int x1] (v.toList ++ []) μ' (d + 1) Q)) else (if (x1 = 4) then (Xm 31 [.ref 38, .int 4] (SH L, mi, ml, MR) d (fun v μ' => X 137 104 [.ref 2, .int x1] (v.toList ++ []) μ' (d + 1) Q)) else (if (x1 = 5) then (Xm 30 [.ref 38] (SH L, mi, ml, MR) d (fun v μ' => X 137 112 [.ref 2, .int x1] (v.toList ++ []) μ' (d + 1) Q)) else (if (x1 = 6) then (Xm 19 [.ref 38] (SH L, mi, ml, MR) d (fun v μ' => X 137 120 [.ref 2, .int x1] (v.toList ++ []) μ' (d + 1) Q)) else (if (x1 = 7) then (Xm 32 [.ref 38] (SH L, mi, ml, MR) d (fun v μ' => X 137 128 [.ref 2, .int x1] (v.toList ++ []) μ' (d + 1) Q)) else (if (x1 = 8) then (Xm 83 [.ref 3] (SH L, mi, ml, MR) d (fun v μ' => X 137 136 [.ref 2, .int x1] (v.toList ++ []) μ' (d + 1) Q)) else (if (x1 = 9) then (Xm 83 [.ref 17] (SH L, mi, ml, MR) d (fun v μ' => X 137 144 [.ref 2, .int x1] (v.toList ++ []) μ' (d + 1) Q)) else (if (x1 = 10) then (Xm 83 [.ref 27] (SH L, mi, ml, MR) d (fun v μ' => X 137 152 [.ref 2, .int x1] (v.toList ++ []) μ' (d + 1) Q)) else (Q (some (.int (-1))) (SH L, mi, ml, MR)))))))))))) := by
  rw [Xm_ent (n := 2) (loc := [.ref 2, .int x1]) (by decide +kernel) rfl]
  refine (R_pure0 (ins := .iload_n 1) (len := 1) (loc' := [.ref 2, .int x1]) (st' := [.int x1]) (by decide +kernel) (fun _ => rfl)).trans ?_
  refine (R_switch (df := 152) (lo := 0) (hi := 10) (offs := #[59, 67, 75, 86, 95, 104, 112, 120, 128, 136, 144]) (len := 59) (l0 := 0) (dt := 153) (ts := [60, 68, 76, 87, 96, 105, 113, 121, 129, 137, 145]) (by decide +kernel) (by decide +kernel)).trans ?_
  refine ite_congr rfl (fun c0 => ?_) (fun c0 => ?_)
  · refine (R_pure0 (ins := .aload_n 0) (len := 1) (loc' := [.ref 2, .int x1]) (st' := [.ref 2]) (by decide +kernel) (fun _ => rfl)).trans ?_
    refine (R_gr (i := 34) (ci := 9) (k := 4) (n := 12) (b := 38) (by decide +kernel) (by decide +kernel) (by decide) rfl (SH_ref (by decide +kernel))).trans ?_
    refine (R_virt (i := 135) (f := 16) (kd := 0) (na := 0) (ml := 1) (ci := 2) (n := 5) (b := 38) (As := []) (rest := []) (by decide +kernel) (by decide +kernel) (by decide) (by decide +kernel) rfl (by decide +kernel) rfl rfl (by decide +kernel) (Nat.le_of_ble_eq_true rfl)).trans ?_
    rfl
  · refine ite_congr rfl (fun c1 => ?_) (fun c1 => ?_)
    · refine (R_pure0 (ins := .aload_n 0) (len := 1) (loc' := [.ref 2, .int x1]) (st' := [.ref 2]) (by decide +kernel) (fun _ => rfl)).trans ?_
      refine (R_gr (i := 34) (ci := 9) (k := 4) (n := 12) (b := 38) (by decide +kernel) (by decide +kernel) (by decide) rfl (SH_ref (by decide +kernel))).trans ?_
      refine (R_virt (i := 140) (f := 18) (kd := 0) (na := 0) (ml := 1) (ci := 2) (n := 5) (b := 38) (As := []) (rest := []) (by decide +kernel) (by decide +kernel) (by decide) (by decide +kernel) rfl (by decide +kernel) rfl rfl (by decide +kernel) (Nat.le_of_ble_eq_true rfl)).trans ?_
      rfl
    · refine ite_congr rfl (fun c2 => ?_) (fun c2 => ?_)
      · refine (R_pure0 (ins := .aload_n 0) (len := 1) (loc' := [.ref 2, .int x1]) (st' := [.ref 2]) (by decide +kernel) (fun _ => rfl)).trans ?_
        refine (R_gr (i := 34) (ci := 9) (k := 4) (n := 12) (b := 38) (by decide +kernel) (by decide +kernel) (by decide) rfl (SH_ref (by decide +kernel))).trans ?_
        refine (R_virt (i := 200) (f := 20) (kd := 0) (na := 0) (ml := 1) (ci := 2) (n := 5) (b := 38) (As := []) (rest := []) (by decide +kernel) (by decide +kernel) (by decide) (by decide +kernel) rfl (by decide +kernel) rfl rfl (by decide +kernel) (Nat.le_of_ble_eq_true rfl)).trans ?_
        rfl
      · refine ite_congr rfl (fun c3 => ?_) (fun c3 => ?_)
        · refine (R_pure0 (ins := .aload_n 0) (len := 1) (loc' := [.ref 2, .int x1]) (st' := [.ref 2]) (by decide +kernel) (fun _ => rfl)).trans ?_
          refine (R_gr (i := 34) (ci := 9) (k := 4) (n := 12) (b := 38) (by decide +kernel) (by decide +kernel) (by decide) rfl (SH_ref (by decide +kernel))).trans ?_
          refine (R_iconst (n := 5) (v := 5) (by decide +kernel) (by decide +kernel)).trans ?_
          refine (R_virt (i := 309) (f := 31) (kd := 0) (na := 1) (ml := 5) (ci := 2) (n := 5) (b := 38) (As := [.int 5]) (rest := []) (by decide +kernel) (by decide +kernel) (by decide) (by decide +kernel) rfl (by decide +kernel) rfl rfl (by decide +kernel) (Nat.le_of_ble_eq_true rfl)).trans ?_
          rfl
        · refine ite_congr rfl (fun c4 => ?_) (fun c4 => ?_)
          · refine (R_pure0 (ins := .aload_n 0) (len := 1) (loc' := [.ref 2, .int x1]) (st' := [.ref 2]) (by decide +kernel) (fun _ => rfl)).trans ?_
            refine (R_gr (i := 34) (ci := 9) (k := 4) (n := 12) (b := 38) (by decide +kernel) (by decide +kernel) (by decide) rfl (SH_ref (by decide +kernel))).trans ?_
            refine (R_iconst (n := 4) (v := 4) (by decide +kernel) (by decide +kernel)).trans ?_
            refine (R_virt (i := 309) (f := 31) (kd := 0) (na := 1) (ml := 5) (ci := 2) (n := 5) (b := 38) (As := [.int 4]) (rest := []) (by decide +kernel) (by decide +kernel) (by decide) (by decide +kernel) rfl (by decide +kernel) rfl rfl (by decide +kernel) (Nat.le_of_ble_eq_true rfl)).trans ?_
            rfl
          · refine ite_congr rfl (fun c5 => ?_) (fun c5 => ?_)
            · refine (R_pure0 (ins := .aload_n 0) (len := 1) (loc' := [.ref 2, .int x1]) (st' := [.ref 2]) (by decide +kernel) (fun _ => rfl)).trans ?_
              refine (R_gr (i := 34) (ci := 9) (k := 4) (n := 12) (b := 38) (by decide +kernel) (by decide +kernel) (by decide) rfl (SH_ref (by decide +kernel))).trans ?_
              refine (R_virt (i := 192) (f := 30) (kd := 0) (na := 0) (ml := 4) (ci := 2) (n := 5) (b := 38) (As := []) (rest := []) (by decide +kernel) (by decide +kernel) (by decide) (by decide +kernel) rfl (by decide +kernel) rfl rfl (by decide +kernel) (Nat.le_of_ble_eq_true rfl)).trans ?_
              rfl
            · refine ite_congr rfl (fun c6 => ?_) (fun c6 => ?_)
              · refine (R_pure0 (ins := .aload_n 0) (len := 1) (loc' := [.ref 2, .int x1]) (st' := [.ref 2]) (by decide +kernel) (fun _ => rfl)).trans ?_
                refine (R_gr (i := 34) (ci := 9) (k := 4) (n := 12) (b := 38) (by decide +kernel) (by decide +kernel) (by decide) rfl (SH_ref (by decide +kernel))).trans ?_
                refine (R_virt (i := 185) (f := 19) (kd := 0) (na := 0) (ml := 1) (ci := 2) (n := 5) (b := 38) (As := []) (rest := []) (by decide +kernel) (by decide +kernel) (by decide) (by decide +kernel) rfl (by decide +kernel) rfl rfl (by decide +kernel) (Nat.le_of_ble_eq_true rfl)).trans ?_
                rfl
              · refine ite_congr rfl (fun c7 => ?_) (fun c7 => ?_)
                · refine (R_pure0 (ins := .aload_n 0) (len := 1) (loc' := [.ref 2, .int x1]) (st' := [.ref 2]) (by decide +kernel) (fun _ => rfl)).trans ?_
                  refine (R_gr (i := 34) (ci := 9) (k := 4) (n := 12) (b := 38) (by decide +kernel) (by decide +kernel) (by decide) rfl (SH_ref (by decide +kernel))).trans ?_
                  refine (R_virt (i := 312) (f := 32) (kd := 0) (na := 0) (ml := 4) (ci := 2) (n := 5) (b := 38) (As := []) (rest := []) (by decide +kernel) (by decide +kernel) (by decide) (by decide +kernel) rfl (by decide +kernel) rfl rfl (by decide +kernel) (Nat.le_of_ble_eq_true rfl)).trans ?_
                  rfl
                · refine ite_congr rfl (fun c8 => ?_) (fun c8 => ?_)
                  · refine (R_pure0 (ins := .aload_n 0) (len := 1) (loc' := [.ref 2, .int x1]) (st' := [.ref 2]) (by decide +kernel) (fun _ => rfl)).trans ?_
                    refine (R_gr (i := 14) (ci := 9) (k := 0) (n := 12) (b := 3) (by decide +kernel) (by decide +kernel) (by decide) rfl (SH_ref (by decide +kernel))).trans ?_
                    refine (R_virt (i := 315) (f := 83) (kd := 0) (na := 0) (ml := 4) (ci := 7) (n := 1) (b := 3) (As := []) (rest := []) (by decide +kernel) (by decide +kernel) (by decide) (by decide +kernel) rfl (by decide +kernel) rfl rfl (by decide +kernel) (Nat.le_of_ble_eq_true rfl)).trans ?_
                    rfl
                  · refine ite_congr rfl (fun c9 => ?_) (fun c9 => ?_)
                    · refine (R_pure0 (ins := .aload_n 0) (len := 1) (loc' := [.ref 2, .int x1]) (st' := [.ref 2]) (by decide +kernel) (fun _ => rfl)).trans ?_
                      refine (R_gr (i := 18) (ci := 9) (k := 1) (n := 12) (b := 17) (by decide +kernel) (by decide +kernel) (by decide) rfl (SH_ref (by decide +kernel))).trans ?_
                      refine (R_virt (i := 315) (f := 83) (kd := 0) (na := 0) (ml := 4) (ci := 7) (n := 1) (b := 17) (As := []) (rest := []) (by decide +kernel) (by decide +kernel) (by decide) (by decide +kernel) rfl (by decide +kernel) rfl rfl (by decide +kernel) (Nat.le_of_ble_eq_true rfl)).trans ?_
                      rfl
                    · refine ite_congr rfl (fun c10 => ?_) (fun c10 => ?_)
                      · refine (R_pure0 (ins := .aload_n 0) (len := 1) (loc' := [.ref 2, .int x1]) (st' := [.ref 2]) (by decide +kernel) (fun _ => rfl)).trans ?_
                        refine (R_gr (i := 21) (ci := 9) (k := 2) (n := 12) (b := 27) (by decide +kernel) (by decide +kernel) (by decide) rfl (SH_ref (by decide +kernel))).trans ?_
                        refine (R_virt (i := 315) (f := 83) (kd := 0) (na := 0) (ml := 4) (ci := 7) (n := 1) (b := 27) (As := []) (rest := []) (by decide +kernel) (by decide +kernel) (by decide) (by decide +kernel) rfl (by decide +kernel) rfl rfl (by decide +kernel) (Nat.le_of_ble_eq_true rfl)).trans ?_
                        rfl
                      · refine (R_iconst (n := (-1)) (v := (-1)) (by decide +kernel) (by decide +kernel)).trans ?_
                        exact R_ireturn (by decide +kernel) (by decide +kernel)
theorem s137_67 {L : Nat} {mi : Nat → Nat → Int32} {ml : Nat → Nat → Int64} {d : Nat} {Q : Option Value → xM → Prop} {x1 y : Int32} : X 137 67 [.ref 2, .int x1] [.int y] (SH L, mi, ml, MR) d Q =
    Q (some (.int y)) (SH L, mi, ml, MR) := by
  exact R_ireturn (by decide +kernel) (by decide +kernel)
theorem s137_75 {L : Nat} {mi : Nat → Nat → Int32} {ml : Nat → Nat → Int64} {d : Nat} {Q : Option Value → xM → Prop} {x1 y : Int32} : X 137 75 [.ref 2, .int x1] [.int y] (SH L, mi, ml, MR) d Q =
    Q (some (.int y)) (SH L, mi, ml, MR) := by
  exact R_ireturn (by decide +kernel) (by decide +kernel)
theorem s137_83 {L : Nat} {mi : Nat → Nat → Int32} {ml : Nat → Nat → Int64} {d : Nat} {Q : Option Value → xM → Prop} {x1 : Int32} {ry : Nat} {n_ry : Nat} (hS_ry : isStrip L ry n_ry) : X 137 83 [.ref 2, .int x1] [.ref ry] (SH L, mi, ml, MR) (d + 1) Q =
    Xm 88 [.ref ry] (SH L, mi, ml, MR) d (fun v μ' => X 137 86 [.ref 2, .int x1] (v.toList ++ []) μ' (d + 1) Q) := by
  refine (R_virt (i := 120) (f := 88) (kd := 0) (na := 0) (ml := 1) (ci := 8) (n := 2) (b := ry) (As := []) (rest := []) (by decide +kernel) (by decide +kernel) (by decide) (by decide +kernel) rfl (by decide +kernel) hS_ry.1 rfl (by decide +kernel) (Nat.le_of_ble_eq_true rfl)).trans ?_
  rfl
-- not made: s137_83n: call on ('N', '')
theorem s137_95 {L : Nat} {mi : Nat → Nat → Int32} {ml : Nat → Nat → Int64} {d : Nat} {Q : Option Value → xM → Prop} {x1 y : Int32} : X 137 95 [.ref 2, .int x1] [.int y] (SH L, mi, ml, MR) d Q =
    Q (some (.int y)) (SH L, mi, ml, MR) := by
  exact R_ireturn (by decide +kernel) (by decide +kernel)
theorem s137_104 {L : Nat} {mi : Nat → Nat → Int32} {ml : Nat → Nat → Int64} {d : Nat} {Q : Option Value → xM → Prop} {x1 y : Int32} : X 137 104 [.ref 2, .int x1] [.int y] (SH L, mi, ml, MR) d Q =
    Q (some (.int y)) (SH L, mi, ml, MR) := by
  exact R_ireturn (by decide +kernel) (by decide +kernel)
theorem s137_112 {L : Nat} {mi : Nat → Nat → Int32} {ml : Nat → Nat → Int64} {d : Nat} {Q : Option Value → xM → Prop} {x1 y : Int32} : X 137 112 [.ref 2, .int x1] [.int y] (SH L, mi, ml, MR) d Q =
    Q (some (.int y)) (SH L, mi, ml, MR) := by
  exact R_ireturn (by decide +kernel) (by decide +kernel)
theorem s137_120 {L : Nat} {mi : Nat → Nat → Int32} {ml : Nat → Nat → Int64} {d : Nat} {Q : Option Value → xM → Prop} {x1 y : Int32} : X 137 120 [.ref 2, .int x1] [.int y] (SH L, mi, ml, MR) d Q =
    Q (some (.int y)) (SH L, mi, ml, MR) := by
  exact R_ireturn (by decide +kernel) (by decide +kernel)
theorem s137_128 {L : Nat} {mi : Nat → Nat → Int32} {ml : Nat → Nat → Int64} {d : Nat} {Q : Option Value → xM → Prop} {x1 y : Int32} : X 137 128 [.ref 2, .int x1] [.int y] (SH L, mi, ml, MR) d Q =
    Q (some (.int y)) (SH L, mi, ml, MR) := by
  exact R_ireturn (by decide +kernel) (by decide +kernel)
theorem s137_136 {L : Nat} {mi : Nat → Nat → Int32} {ml : Nat → Nat → Int64} {d : Nat} {Q : Option Value → xM → Prop} {x1 y : Int32} : X 137 136 [.ref 2, .int x1] [.int y] (SH L, mi, ml, MR) d Q =
    Q (some (.int y)) (SH L, mi, ml, MR) := by
  exact R_ireturn (by decide +kernel) (by decide +kernel)
theorem s137_144 {L : Nat} {mi : Nat → Nat → Int32} {ml : Nat → Nat → Int64} {d : Nat} {Q : Option Value → xM → Prop} {x1 y : Int32} : X 137 144 [.ref 2, .int x1] [.int y] (SH L, mi, ml, MR) d Q =
    Q (some (.int y)) (SH L, mi, ml, MR) := by
  exact R_ireturn (by decide +kernel) (by decide +kernel)
theorem s137_152 {L : Nat} {mi : Nat → Nat → Int32} {ml : Nat → Nat → Int64} {d : Nat} {Q : Option Value → xM → Prop} {x1 y : Int32} : X 137 152 [.ref 2, .int x1] [.int y] (SH L, mi, ml, MR) d Q =
    Q (some (.int y)) (SH L, mi, ml, MR) := by
  exact R_ireturn (by decide +kernel) (by decide +kernel)
theorem s137_86 {L : Nat} {mi : Nat → Nat → Int32} {ml : Nat → Nat → Int64} {d : Nat} {Q : Option Value → xM → Prop} {x1 y : Int32} : X 137 86 [.ref 2, .int x1] [.int y] (SH L, mi, ml, MR) d Q =
    Q (some (.int y)) (SH L, mi, ml, MR) := by
  exact R_ireturn (by decide +kernel) (by decide +kernel)
theorem s138 {L : Nat} {mi : Nat → Nat → Int32} {ml : Nat → Nat → Int64} {d : Nat} {Q : Option Value → xM → Prop} : Xm 138 [.ref 2] (SH L, mi, ml, MR) d Q =
    Q (some (.int (mi 2 10))) (SH L, mi, ml, MR) := by
  rw [Xm_ent (n := 1) (loc := [.ref 2]) (by decide +kernel) rfl]
  refine (R_pure0 (ins := .aload_n 0) (len := 1) (loc' := [.ref 2]) (st' := [.ref 2]) (by decide +kernel) (fun _ => rfl)).trans ?_
  refine (R_gi (i := 74) (ci := 9) (k := 10) (n := 12) (by decide +kernel) (by decide +kernel) (by decide) rfl).trans ?_
  exact R_ireturn (by decide +kernel) (by decide +kernel)
theorem s139 {L : Nat} {mi : Nat → Nat → Int32} {ml : Nat → Nat → Int64} {d : Nat} {Q : Option Value → xM → Prop} {x1 : Int32} (h1 : ¬ (x1 < 1) → ¬ ((5 : Int32) < x1) → (x1 < 6) → xin x1 6 = true) : Xm 139 [.ref 2, .int x1] (SH L, mi, ml, MR) d Q =
    if (x1 < 1) then (Q (some (.int (-1))) (SH L, mi, ml, MR)) else (if ((5 : Int32) < x1) then (Q (some (.int (-1))) (SH L, mi, ml, MR)) else (if (x1 < 6) then (Q (some (.int (mi 67 x1.toNatClampNeg))) (SH L, mi, ml, MR)) else (Q (some (.int (-1))) (SH L, mi, ml, MR)))) := by
  rw [Xm_ent (n := 2) (loc := [.ref 2, .int x1]) (by decide +kernel) rfl]
  refine (R_pure0 (ins := .iload_n 1) (len := 1) (loc' := [.ref 2, .int x1]) (st' := [.int x1]) (by decide +kernel) (fun _ => rfl)).trans ?_
  refine (R_iconst (n := 1) (v := 1) (by decide +kernel) (by decide +kernel)).trans ?_
  refine (R_icmp_lt (off := 17) (t := 19) (by decide +kernel) (by decide +kernel)).trans (ite_congr rfl (fun c0 => ?_) (fun c0 => ?_))
  · refine (R_iconst (n := (-1)) (v := (-1)) (by decide +kernel) (by decide +kernel)).trans ?_
    refine (R_goto (off := 9) (t := 29) (by decide +kernel) (by decide +kernel)).trans ?_
    exact R_ireturn (by decide +kernel) (by decide +kernel)
  · refine (R_pure0 (ins := .iload_n 1) (len := 1) (loc' := [.ref 2, .int x1]) (st' := [.int x1]) (by decide +kernel) (fun _ => rfl)).trans ?_
    refine (R_iconst (n := 5) (v := 5) (by decide +kernel) (by decide +kernel)).trans ?_
    refine (R_icmp_gt (off := 12) (t := 19) (by decide +kernel) (by decide +kernel)).trans (ite_congr rfl (fun c1 => ?_) (fun c1 => ?_))
    · refine (R_iconst (n := (-1)) (v := (-1)) (by decide +kernel) (by decide +kernel)).trans ?_
      refine (R_goto (off := 9) (t := 29) (by decide +kernel) (by decide +kernel)).trans ?_
      exact R_ireturn (by decide +kernel) (by decide +kernel)
    · refine (R_pure0 (ins := .iload_n 1) (len := 1) (loc' := [.ref 2, .int x1]) (st' := [.int x1]) (by decide +kernel) (fun _ => rfl)).trans ?_
      refine (R_pure0 (ins := .aload_n 0) (len := 1) (loc' := [.ref 2, .int x1]) (st' := [.ref 2, .int x1]) (by decide +kernel) (fun _ => rfl)).trans ?_
      refine (R_gr (i := 70) (ci := 9) (k := 9) (n := 12) (b := 67) (by decide +kernel) (by decide +kernel) (by decide) rfl (SH_ref (by decide +kernel))).trans ?_
      refine (R_arraylength (kd := 100) (n := 6) (by decide +kernel) rfl (by decide)).trans ?_
      show X 139 16 [.ref 2, .int x1] [.int 6, .int x1] (SH L, mi, ml, MR) _ _ = _
      refine (R_icmp_lt (off := 7) (t := 23) (by decide +kernel) (by decide +kernel)).trans (ite_congr rfl (fun c2 => ?_) (fun c2 => ?_))
      · refine (R_pure0 (ins := .aload_n 0) (len := 1) (loc' := [.ref 2, .int x1]) (st' := [.ref 2]) (by decide +kernel) (fun _ => rfl)).trans ?_
        refine (R_gr (i := 70) (ci := 9) (k := 9) (n := 12) (b := 67) (by decide +kernel) (by decide +kernel) (by decide) rfl (SH_ref (by decide +kernel))).trans ?_
        refine (R_pure0 (ins := .iload_n 1) (len := 1) (loc' := [.ref 2, .int x1]) (st' := [.int x1, .ref 67]) (by decide +kernel) (fun _ => rfl)).trans ?_
        refine (R_iaload (kd := 100) (n := 6) (by decide +kernel) rfl (by decide) (h1 c0 c1 c2)).trans ?_
        exact R_ireturn (by decide +kernel) (by decide +kernel)
      · refine (R_iconst (n := (-1)) (v := (-1)) (by decide +kernel) (by decide +kernel)).trans ?_
        refine (R_goto (off := 9) (t := 29) (by decide +kernel) (by decide +kernel)).trans ?_
        exact R_ireturn (by decide +kernel) (by decide +kernel)
theorem s140 {L : Nat} {mi : Nat → Nat → Int32} {ml : Nat → Nat → Int64} {d : Nat} {Q : Option Value → xM → Prop} : Xm 140 [.ref 2] (SH L, mi, ml, MR) d Q =
    X 140 6 [.ref 2, .long 17, xmk, .int 0, xmk, xmk] [] (SH L, mi, ml, MR) d Q := by
  rw [Xm_ent (n := 6) (loc := [.ref 2, xmk, xmk, xmk, xmk, xmk]) (by decide +kernel) rfl]
  refine (R_ldc2 (i := 318) (v := 17) (by decide +kernel) (by decide +kernel)).trans ?_
  refine (R_pure0 (ins := .lstore_n 1) (len := 1) (loc' := [.ref 2, .long 17, xmk, xmk, xmk, xmk]) (st' := []) (by decide +kernel) (fun _ => rfl)).trans ?_
  refine (R_iconst (n := 0) (v := 0) (by decide +kernel) (by decide +kernel)).trans ?_
  refine (R_pure0 (ins := .istore_n 3) (len := 1) (loc' := [.ref 2, .long 17, xmk, .int 0, xmk, xmk]) (st' := []) (by decide +kernel) (fun _ => rfl)).trans ?_
  rfl
theorem s140_6 {L : Nat} {mi : Nat → Nat → Int32} {ml : Nat → Nat → Int64} {d : Nat} {Q : Option Value → xM → Prop} {x3 : Int32} {x1 : Int64} : X 140 6 [.ref 2, .long x1, xmk, .int x3, xmk, xmk] [] (SH L, mi, ml, MR) (d + 1) Q =
    if ((10 : Int32) < x3) then (X 140 33 [.ref 2, .long x1, xmk, .int 0, xmk, xmk] [] (SH L, mi, ml, MR) (d + 1) Q) else (Xm 137 [.ref 2, .int x3] (SH L, mi, ml, MR) d (fun v μ' => X 140 22 [.ref 2, .long x1, xmk, .int x3, xmk, xmk] (v.toList ++ [.long (31 * x1)]) μ' (d + 1) Q)) := by
  refine (R_pure0 (ins := .iload_n 3) (len := 1) (loc' := [.ref 2, .long x1, xmk, .int x3, xmk, xmk]) (st' := [.int x3]) (by decide +kernel) (fun _ => rfl)).trans ?_
  refine (R_bipush (n := 10) (v := 10) (by decide +kernel) (by decide +kernel)).trans ?_
  refine (R_icmp_gt (off := 22) (t := 31) (by decide +kernel) (by decide +kernel)).trans (ite_congr rfl (fun c0 => ?_) (fun c0 => ?_))
  · refine (R_iconst (n := 0) (v := 0) (by decide +kernel) (by decide +kernel)).trans ?_
    refine (R_pure0 (ins := .istore_n 3) (len := 1) (loc' := [.ref 2, .long x1, xmk, .int 0, xmk, xmk]) (st' := []) (by decide +kernel) (fun _ => rfl)).trans ?_
    rfl
  · refine (R_ldc2 (i := 320) (v := 31) (by decide +kernel) (by decide +kernel)).trans ?_
    refine (R_pure0 (ins := .lload_n 1) (len := 1) (loc' := [.ref 2, .long x1, xmk, .int x3, xmk, xmk]) (st' := [.long x1, .long 31]) (by decide +kernel) (fun _ => rfl)).trans ?_
    refine (R_pure0 (ins := .lmul) (len := 1) (loc' := [.ref 2, .long x1, xmk, .int x3, xmk, xmk]) (st' := [.long (31 * x1)]) (by decide +kernel) (fun _ => rfl)).trans ?_
    refine (R_pure0 (ins := .aload_n 0) (len := 1) (loc' := [.ref 2, .long x1, xmk, .int x3, xmk, xmk]) (st' := [.ref 2, .long (31 * x1)]) (by decide +kernel) (fun _ => rfl)).trans ?_
    refine (R_pure0 (ins := .iload_n 3) (len := 1) (loc' := [.ref 2, .long x1, xmk, .int x3, xmk, xmk]) (st' := [.int x3, .ref 2, .long (31 * x1)]) (by decide +kernel) (fun _ => rfl)).trans ?_
    refine (R_virt (i := 322) (f := 137) (kd := 0) (na := 1) (ml := 2) (ci := 9) (n := 12) (b := 2) (As := [.int x3]) (rest := [.long (31 * x1)]) (by decide +kernel) (by decide +kernel) (by decide) (by decide +kernel) rfl (by decide +kernel) rfl rfl (by decide +kernel) (Nat.le_of_ble_eq_true rfl)).trans ?_
    rfl
theorem s140_33 {L : Nat} {mi : Nat → Nat → Int32} {ml : Nat → Nat → Int64} {d : Nat} {Q : Option Value → xM → Prop} {x3 : Int32} {x1 : Int64} : X 140 33 [.ref 2, .long x1, xmk, .int x3, xmk, xmk] [] (SH L, mi, ml, MR) (d + 1) Q =
    Xm 16 [.ref 38] (SH L, mi, ml, MR) d (fun v μ' => X 140 41 [.ref 2, .long x1, xmk, .int x3, xmk, xmk] (v.toList ++ [.int x3]) μ' (d + 1) Q) := by
  refine (R_pure0 (ins := .iload_n 3) (len := 1) (loc' := [.ref 2, .long x1, xmk, .int x3, xmk, xmk]) (st' := [.int x3]) (by decide +kernel) (fun _ => rfl)).trans ?_
  refine (R_pure0 (ins := .aload_n 0) (len := 1) (loc' := [.ref 2, .long x1, xmk, .int x3, xmk, xmk]) (st' := [.ref 2, .int x3]) (by decide +kernel) (fun _ => rfl)).trans ?_
  refine (R_gr (i := 34) (ci := 9) (k := 4) (n := 12) (b := 38) (by decide +kernel) (by decide +kernel) (by decide) rfl (SH_ref (by decide +kernel))).trans ?_
  refine (R_virt (i := 135) (f := 16) (kd := 0) (na := 0) (ml := 1) (ci := 2) (n := 5) (b := 38) (As := []) (rest := [.int x3]) (by decide +kernel) (by decide +kernel) (by decide) (by decide +kernel) rfl (by decide +kernel) rfl rfl (by decide +kernel) (Nat.le_of_ble_eq_true rfl)).trans ?_
  rfl
theorem s140_22 {L : Nat} {mi : Nat → Nat → Int32} {ml : Nat → Nat → Int64} {d : Nat} {Q : Option Value → xM → Prop} {x3 y : Int32} {x1 z0 : Int64} : X 140 22 [.ref 2, .long x1, xmk, .int x3, xmk, xmk] [.int y, .long z0] (SH L, mi, ml, MR) d Q =
    X 140 6 [.ref 2, .long (z0 + y.toInt64), xmk, .int (x3 + 1), xmk, xmk] [] (SH L, mi, ml, MR) d Q := by
  refine (R_pure0 (ins := .i2l) (len := 1) (loc' := [.ref 2, .long x1, xmk, .int x3, xmk, xmk]) (st' := [.long y.toInt64, .long z0]) (by decide +kernel) (fun _ => rfl)).trans ?_
  refine (R_pure0 (ins := .ladd) (len := 1) (loc' := [.ref 2, .long x1, xmk, .int x3, xmk, xmk]) (st' := [.long (z0 + y.toInt64)]) (by decide +kernel) (fun _ => rfl)).trans ?_
  refine (R_pure0 (ins := .lstore_n 1) (len := 1) (loc' := [.ref 2, .long (z0 + y.toInt64), xmk, .int x3, xmk, xmk]) (st' := []) (by decide +kernel) (fun _ => rfl)).trans ?_
  refine (R_iinc (k := 3) (n := 1) (x := x3) (v := (x3 + 1)) (loc' := [.ref 2, .long (z0 + y.toInt64), xmk, .int (x3 + 1), xmk, xmk]) (by decide +kernel) rfl rfl rfl).trans ?_
  refine (R_goto (off := (-22)) (t := 6) (by decide +kernel) (by decide +kernel)).trans ?_
  rfl
theorem s140_41 {L : Nat} {mi : Nat → Nat → Int32} {ml : Nat → Nat → Int64} {d : Nat} {Q : Option Value → xM → Prop} {x3 y z0 : Int32} {x1 : Int64} : X 140 41 [.ref 2, .long x1, xmk, .int x3, xmk, xmk] [.int y, .int z0] (SH L, mi, ml, MR) (d + 1) Q =
    if (z0 < y) then (Xm 15 [.ref 38, .int x3] (SH L, mi, ml, MR) d (fun v μ' => X 140 52 [.ref 2, .long x1, xmk, .int x3, xmk, xmk] (v.toList ++ []) μ' (d + 1) Q)) else (X 140 105 [.ref 2, .long x1, xmk, .int 0, xmk, xmk] [] (SH L, mi, ml, MR) (d + 1) Q) := by
  refine (R_icmp_ge (off := 62) (t := 103) (by decide +kernel) (by decide +kernel)).trans (ite_congr rfl (fun c0 => ?_) (fun c0 => ?_))
  · refine (R_pure0 (ins := .aload_n 0) (len := 1) (loc' := [.ref 2, .long x1, xmk, .int x3, xmk, xmk]) (st' := [.ref 2]) (by decide +kernel) (fun _ => rfl)).trans ?_
    refine (R_gr (i := 34) (ci := 9) (k := 4) (n := 12) (b := 38) (by decide +kernel) (by decide +kernel) (by decide) rfl (SH_ref (by decide +kernel))).trans ?_
    refine (R_pure0 (ins := .iload_n 3) (len := 1) (loc' := [.ref 2, .long x1, xmk, .int x3, xmk, xmk]) (st' := [.int x3, .ref 38]) (by decide +kernel) (fun _ => rfl)).trans ?_
    refine (R_virt (i := 136) (f := 15) (kd := 0) (na := 1) (ml := 2) (ci := 2) (n := 5) (b := 38) (As := [.int x3]) (rest := []) (by decide +kernel) (by decide +kernel) (by decide) (by decide +kernel) rfl (by decide +kernel) rfl rfl (by decide +kernel) (Nat.le_of_ble_eq_true rfl)).trans ?_
    rfl
  · refine (R_iconst (n := 0) (v := 0) (by decide +kernel) (by decide +kernel)).trans ?_
    refine (R_pure0 (ins := .istore_n 3) (len := 1) (loc' := [.ref 2, .long x1, xmk, .int 0, xmk, xmk]) (st' := []) (by decide +kernel) (fun _ => rfl)).trans ?_
    rfl
theorem s140_52 {L : Nat} {mi : Nat → Nat → Int32} {ml : Nat → Nat → Int64} {d : Nat} {Q : Option Value → xM → Prop} {x3 : Int32} {x1 : Int64} {ry : Nat} (hS_ry : (SH L)[ry]? = some (4, 7)) : X 140 52 [.ref 2, .long x1, xmk, .int x3, xmk, xmk] [.ref ry] (SH L, mi, ml, MR) d Q =
    X 140 57 [.ref 2, .long x1, xmk, .int x3, .ref ry, .int 0] [] (SH L, mi, ml, MR) d Q := by
  refine (R_pure0 (ins := .astore 4) (len := 2) (loc' := [.ref 2, .long x1, xmk, .int x3, .ref ry, xmk]) (st' := []) (by decide +kernel) (fun _ => rfl)).trans ?_
  refine (R_iconst (n := 0) (v := 0) (by decide +kernel) (by decide +kernel)).trans ?_
  refine (R_pure0 (ins := .istore 5) (len := 2) (loc' := [.ref 2, .long x1, xmk, .int x3, .ref ry, .int 0]) (st' := []) (by decide +kernel) (fun _ => rfl)).trans ?_
  rfl
theorem s140_52n {L : Nat} {mi : Nat → Nat → Int32} {ml : Nat → Nat → Int64} {d : Nat} {Q : Option Value → xM → Prop} {x3 : Int32} {x1 : Int64} : X 140 52 [.ref 2, .long x1, xmk, .int x3, xmk, xmk] [.null] (SH L, mi, ml, MR) d Q =
    X 140 57 [.ref 2, .long x1, xmk, .int x3, .null, .int 0] [] (SH L, mi, ml, MR) d Q := by
  refine (R_pure0 (ins := .astore 4) (len := 2) (loc' := [.ref 2, .long x1, xmk, .int x3, .null, xmk]) (st' := []) (by decide +kernel) (fun _ => rfl)).trans ?_
  refine (R_iconst (n := 0) (v := 0) (by decide +kernel) (by decide +kernel)).trans ?_
  refine (R_pure0 (ins := .istore 5) (len := 2) (loc' := [.ref 2, .long x1, xmk, .int x3, .null, .int 0]) (st' := []) (by decide +kernel) (fun _ => rfl)).trans ?_
  rfl
theorem s140_105 {L : Nat} {mi : Nat → Nat → Int32} {ml : Nat → Nat → Int64} {d : Nat} {Q : Option Value → xM → Prop} {x3 : Int32} {x1 : Int64} : X 140 105 [.ref 2, .long x1, xmk, .int x3, xmk, xmk] [] (SH L, mi, ml, MR) (d + 1) Q =
    if (x3 < 3) then (Xm 82 [.ref 27, .int x3] (SH L, mi, ml, MR) d (fun v μ' => X 140 118 [.ref 2, .long x1, xmk, .int x3, xmk, xmk] (v.toList ++ []) μ' (d + 1) Q)) else (Xm 85 [.ref 3, .long x1] (SH L, mi, ml, MR) d (fun v μ' => X 140 160 [.ref 2, .long x1, xmk, .int x3, xmk, xmk] (v.toList ++ [.ref 17]) μ' (d + 1) Q)) := by
  refine (R_pure0 (ins := .iload_n 3) (len := 1) (loc' := [.ref 2, .long x1, xmk, .int x3, xmk, xmk]) (st' := [.int x3]) (by decide +kernel) (fun _ => rfl)).trans ?_
  refine (R_iconst (n := 3) (v := 3) (by decide +kernel) (by decide +kernel)).trans ?_
  refine (R_icmp_ge (off := 41) (t := 148) (by decide +kernel) (by decide +kernel)).trans (ite_congr rfl (fun c0 => ?_) (fun c0 => ?_))
  · refine (R_pure0 (ins := .aload_n 0) (len := 1) (loc' := [.ref 2, .long x1, xmk, .int x3, xmk, xmk]) (st' := [.ref 2]) (by decide +kernel) (fun _ => rfl)).trans ?_
    refine (R_gr (i := 21) (ci := 9) (k := 2) (n := 12) (b := 27) (by decide +kernel) (by decide +kernel) (by decide) rfl (SH_ref (by decide +kernel))).trans ?_
    refine (R_pure0 (ins := .iload_n 3) (len := 1) (loc' := [.ref 2, .long x1, xmk, .int x3, xmk, xmk]) (st' := [.int x3, .ref 27]) (by decide +kernel) (fun _ => rfl)).trans ?_
    refine (R_virt (i := 81) (f := 82) (kd := 0) (na := 1) (ml := 2) (ci := 7) (n := 1) (b := 27) (As := [.int x3]) (rest := []) (by decide +kernel) (by decide +kernel) (by decide) (by decide +kernel) rfl (by decide +kernel) rfl rfl (by decide +kernel) (Nat.le_of_ble_eq_true rfl)).trans ?_
    rfl
  · refine (R_pure0 (ins := .aload_n 0) (len := 1) (loc' := [.ref 2, .long x1, xmk, .int x3, xmk, xmk]) (st' := [.ref 2]) (by decide +kernel) (fun _ => rfl)).trans ?_
    refine (R_gr (i := 18) (ci := 9) (k := 1) (n := 12) (b := 17) (by decide +kernel) (by decide +kernel) (by decide) rfl (SH_ref (by decide +kernel))).trans ?_
    refine (R_pure0 (ins := .aload_n 0) (len := 1) (loc' := [.ref 2, .long x1, xmk, .int x3, xmk, xmk]) (st' := [.ref 2, .ref 17]) (by decide +kernel) (fun _ => rfl)).trans ?_
    refine (R_gr (i := 14) (ci := 9) (k := 0) (n := 12) (b := 3) (by decide +kernel) (by decide +kernel) (by decide) rfl (SH_ref (by decide +kernel))).trans ?_
    refine (R_pure0 (ins := .lload_n 1) (len := 1) (loc' := [.ref 2, .long x1, xmk, .int x3, xmk, xmk]) (st' := [.long x1, .ref 3, .ref 17]) (by decide +kernel) (fun _ => rfl)).trans ?_
    refine (R_virt (i := 325) (f := 85) (kd := 0) (na := 1) (ml := 8) (ci := 7) (n := 1) (b := 3) (As := [.long x1]) (rest := [.ref 17]) (by decide +kernel) (by decide +kernel) (by decide) (by decide +kernel) rfl (by decide +kernel) rfl rfl (by decide +kernel) (Nat.le_of_ble_eq_true rfl)).trans ?_
    rfl
theorem s140_57 {L : Nat} {mi : Nat → Nat → Int32} {ml : Nat → Nat → Int64} {d : Nat} {Q : Option Value → xM → Prop} {x3 x5 : Int32} {x1 : Int64} {r4 : Nat} (hS_r4 : (SH L)[r4]? = some (4, 7)) : X 140 57 [.ref 2, .long x1, xmk, .int x3, .ref r4, .int x5] [] (SH L, mi, ml, MR) (d + 1) Q =
    if ((7 : Int32) < x5) then (X 140 33 [.ref 2, .long x1, xmk, .int (x3 + 1), .ref r4, .int x5] [] (SH L, mi, ml, MR) (d + 1) Q) else (Xm 18 [.ref 38] (SH L, mi, ml, MR) d (fun v μ' => X 140 85 [.ref 2, .long x1, xmk, .int x3, .ref r4, .int x5] (v.toList ++ [.int x5, .ref r4, .long (31 * x1)]) μ' (d + 1) Q)) := by
  refine (R_pure0 (ins := .aload 4) (len := 2) (loc' := [.ref 2, .long x1, xmk, .int x3, .ref r4, .int x5]) (st' := [.ref r4]) (by decide +kernel) (fun _ => rfl)).trans ?_
  refine (R_ifnull_r (off := 38) (by decide +kernel)).trans ?_
  refine (R_pure0 (ins := .iload 5) (len := 2) (loc' := [.ref 2, .long x1, xmk, .int x3, .ref r4, .int x5]) (st' := [.int x5]) (by decide +kernel) (fun _ => rfl)).trans ?_
  refine (R_bipush (n := 7) (v := 7) (by decide +kernel) (by decide +kernel)).trans ?_
  refine (R_icmp_gt (off := 31) (t := 97) (by decide +kernel) (by decide +kernel)).trans (ite_congr rfl (fun c0 => ?_) (fun c0 => ?_))
  · refine (R_iinc (k := 3) (n := 1) (x := x3) (v := (x3 + 1)) (loc' := [.ref 2, .long x1, xmk, .int (x3 + 1), .ref r4, .int x5]) (by decide +kernel) rfl rfl rfl).trans ?_
    refine (R_goto (off := (-67)) (t := 33) (by decide +kernel) (by decide +kernel)).trans ?_
    rfl
  · refine (R_ldc2 (i := 320) (v := 31) (by decide +kernel) (by decide +kernel)).trans ?_
    refine (R_pure0 (ins := .lload_n 1) (len := 1) (loc' := [.ref 2, .long x1, xmk, .int x3, .ref r4, .int x5]) (st' := [.long x1, .long 31]) (by decide +kernel) (fun _ => rfl)).trans ?_
    refine (R_pure0 (ins := .lmul) (len := 1) (loc' := [.ref 2, .long x1, xmk, .int x3, .ref r4, .int x5]) (st' := [.long (31 * x1)]) (by decide +kernel) (fun _ => rfl)).trans ?_
    refine (R_pure0 (ins := .aload 4) (len := 2) (loc' := [.ref 2, .long x1, xmk, .int x3, .ref r4, .int x5]) (st' := [.ref r4, .long (31 * x1)]) (by decide +kernel) (fun _ => rfl)).trans ?_
    refine (R_pure0 (ins := .iload 5) (len := 2) (loc' := [.ref 2, .long x1, xmk, .int x3, .ref r4, .int x5]) (st' := [.int x5, .ref r4, .long (31 * x1)]) (by decide +kernel) (fun _ => rfl)).trans ?_
    refine (R_pure0 (ins := .aload_n 0) (len := 1) (loc' := [.ref 2, .long x1, xmk, .int x3, .ref r4, .int x5]) (st' := [.ref 2, .int x5, .ref r4, .long (31 * x1)]) (by decide +kernel) (fun _ => rfl)).trans ?_
    refine (R_gr (i := 34) (ci := 9) (k := 4) (n := 12) (b := 38) (by decide +kernel) (by decide +kernel) (by decide) rfl (SH_ref (by decide +kernel))).trans ?_
    refine (R_virt (i := 140) (f := 18) (kd := 0) (na := 0) (ml := 1) (ci := 2) (n := 5) (b := 38) (As := []) (rest := [.int x5, .ref r4, .long (31 * x1)]) (by decide +kernel) (by decide +kernel) (by decide) (by decide +kernel) rfl (by decide +kernel) rfl rfl (by decide +kernel) (Nat.le_of_ble_eq_true rfl)).trans ?_
    rfl
theorem s140_57v2 {L : Nat} {mi : Nat → Nat → Int32} {ml : Nat → Nat → Int64} {d : Nat} {Q : Option Value → xM → Prop} {x3 x5 : Int32} {x1 : Int64} : X 140 57 [.ref 2, .long x1, xmk, .int x3, .null, .int x5] [] (SH L, mi, ml, MR) d Q =
    X 140 33 [.ref 2, .long x1, xmk, .int (x3 + 1), .null, .int x5] [] (SH L, mi, ml, MR) d Q := by
  refine (R_pure0 (ins := .aload 4) (len := 2) (loc' := [.ref 2, .long x1, xmk, .int x3, .null, .int x5]) (st' := [.null]) (by decide +kernel) (fun _ => rfl)).trans ?_
  refine (R_ifnull_n (off := 38) (t := 97) (by decide +kernel) (by decide +kernel)).trans ?_
  refine (R_iinc (k := 3) (n := 1) (x := x3) (v := (x3 + 1)) (loc' := [.ref 2, .long x1, xmk, .int (x3 + 1), .null, .int x5]) (by decide +kernel) rfl rfl rfl).trans ?_
  refine (R_goto (off := (-67)) (t := 33) (by decide +kernel) (by decide +kernel)).trans ?_
  rfl
theorem s140_118 {L : Nat} {mi : Nat → Nat → Int32} {ml : Nat → Nat → Int64} {d : Nat} {Q : Option Value → xM → Prop} {x3 : Int32} {x1 : Int64} {ry : Nat} {n_ry : Nat} (hS_ry : isStrip L ry n_ry) : X 140 118 [.ref 2, .long x1, xmk, .int x3, xmk, xmk] [.ref ry] (SH L, mi, ml, MR) (d + 1) Q =
    Xm 88 [.ref ry] (SH L, mi, ml, MR) d (fun v μ' => X 140 139 [.ref 2, .long x1, xmk, .int x3, .ref ry, xmk] (v.toList ++ [.long (31 * x1)]) μ' (d + 1) Q) := by
  refine (R_pure0 (ins := .astore 4) (len := 2) (loc' := [.ref 2, .long x1, xmk, .int x3, .ref ry, xmk]) (st' := []) (by decide +kernel) (fun _ => rfl)).trans ?_
  refine (R_pure0 (ins := .aload 4) (len := 2) (loc' := [.ref 2, .long x1, xmk, .int x3, .ref ry, xmk]) (st' := [.ref ry]) (by decide +kernel) (fun _ => rfl)).trans ?_
  refine (R_ifnonnull_r (off := 7) (t := 129) (by decide +kernel) (by decide +kernel)).trans ?_
  refine (R_ldc2 (i := 320) (v := 31) (by decide +kernel) (by decide +kernel)).trans ?_
  refine (R_pure0 (ins := .lload_n 1) (len := 1) (loc' := [.ref 2, .long x1, xmk, .int x3, .ref ry, xmk]) (st' := [.long x1, .long 31]) (by decide +kernel) (fun _ => rfl)).trans ?_
  refine (R_pure0 (ins := .lmul) (len := 1) (loc' := [.ref 2, .long x1, xmk, .int x3, .ref ry, xmk]) (st' := [.long (31 * x1)]) (by decide +kernel) (fun _ => rfl)).trans ?_
  refine (R_pure0 (ins := .aload 4) (len := 2) (loc' := [.ref 2, .long x1, xmk, .int x3, .ref ry, xmk]) (st' := [.ref ry, .long (31 * x1)]) (by decide +kernel) (fun _ => rfl)).trans ?_
  refine (R_virt (i := 120) (f := 88) (kd := 0) (na := 0) (ml := 1) (ci := 8) (n := 2) (b := ry) (As := []) (rest := [.long (31 * x1)]) (by decide +kernel) (by decide +kernel) (by decide) (by decide +kernel) rfl (by decide +kernel) hS_ry.1 rfl (by decide +kernel) (Nat.le_of_ble_eq_true rfl)).trans ?_
  rfl
theorem s140_118n {L : Nat} {mi : Nat → Nat → Int32} {ml : Nat → Nat → Int64} {d : Nat} {Q : Option Value → xM → Prop} {x3 : Int32} {x1 : Int64} : X 140 118 [.ref 2, .long x1, xmk, .int x3, xmk, xmk] [.null] (SH L, mi, ml, MR) d Q =
    X 140 105 [.ref 2, .long x1, xmk, .int (x3 + 1), .null, xmk] [] (SH L, mi, ml, MR) d Q := by
  refine (R_pure0 (ins := .astore 4) (len := 2) (loc' := [.ref 2, .long x1, xmk, .int x3, .null, xmk]) (st' := []) (by decide +kernel) (fun _ => rfl)).trans ?_
  refine (R_pure0 (ins := .aload 4) (len := 2) (loc' := [.ref 2, .long x1, xmk, .int x3, .null, xmk]) (st' := [.null]) (by decide +kernel) (fun _ => rfl)).trans ?_
  refine (R_ifnonnull_n (off := 7) (by decide +kernel)).trans ?_
  refine (R_pure0 (ins := .lload_n 1) (len := 1) (loc' := [.ref 2, .long x1, xmk, .int x3, .null, xmk]) (st' := [.long x1]) (by decide +kernel) (fun _ => rfl)).trans ?_
  refine (R_goto (off := 15) (t := 141) (by decide +kernel) (by decide +kernel)).trans ?_
  refine (R_pure0 (ins := .lstore_n 1) (len := 1) (loc' := [.ref 2, .long x1, xmk, .int x3, .null, xmk]) (st' := []) (by decide +kernel) (fun _ => rfl)).trans ?_
  refine (R_iinc (k := 3) (n := 1) (x := x3) (v := (x3 + 1)) (loc' := [.ref 2, .long x1, xmk, .int (x3 + 1), .null, xmk]) (by decide +kernel) rfl rfl rfl).trans ?_
  refine (R_goto (off := (-40)) (t := 105) (by decide +kernel) (by decide +kernel)).trans ?_
  rfl
theorem s140_160 {L : Nat} {mi : Nat → Nat → Int32} {ml : Nat → Nat → Int64} {d : Nat} {Q : Option Value → xM → Prop} {x3 : Int32} {x1 y : Int64} : X 140 160 [.ref 2, .long x1, xmk, .int x3, xmk, xmk] [.long y, .ref 17] (SH L, mi, ml, MR) (d + 1) Q =
    Xm 85 [.ref 17, .long y] (SH L, mi, ml, MR) d (fun v μ' => X 140 163 [.ref 2, .long x1, xmk, .int x3, xmk, xmk] (v.toList ++ []) μ' (d + 1) Q) := by
  refine (R_virt (i := 325) (f := 85) (kd := 0) (na := 1) (ml := 8) (ci := 7) (n := 1) (b := 17) (As := [.long y]) (rest := []) (by decide +kernel) (by decide +kernel) (by decide) (by decide +kernel) rfl (by decide +kernel) rfl rfl (by decide +kernel) (Nat.le_of_ble_eq_true rfl)).trans ?_
  rfl
theorem s140_33v2 {L : Nat} {mi : Nat → Nat → Int32} {ml : Nat → Nat → Int64} {d : Nat} {Q : Option Value → xM → Prop} {x3 x5 : Int32} {x1 : Int64} {r4 : Nat} (hS_r4 : (SH L)[r4]? = some (4, 7)) : X 140 33 [.ref 2, .long x1, xmk, .int x3, .ref r4, .int x5] [] (SH L, mi, ml, MR) (d + 1) Q =
    Xm 16 [.ref 38] (SH L, mi, ml, MR) d (fun v μ' => X 140 41 [.ref 2, .long x1, xmk, .int x3, .ref r4, .int x5] (v.toList ++ [.int x3]) μ' (d + 1) Q) := by
  refine (R_pure0 (ins := .iload_n 3) (len := 1) (loc' := [.ref 2, .long x1, xmk, .int x3, .ref r4, .int x5]) (st' := [.int x3]) (by decide +kernel) (fun _ => rfl)).trans ?_
  refine (R_pure0 (ins := .aload_n 0) (len := 1) (loc' := [.ref 2, .long x1, xmk, .int x3, .ref r4, .int x5]) (st' := [.ref 2, .int x3]) (by decide +kernel) (fun _ => rfl)).trans ?_
  refine (R_gr (i := 34) (ci := 9) (k := 4) (n := 12) (b := 38) (by decide +kernel) (by decide +kernel) (by decide) rfl (SH_ref (by decide +kernel))).trans ?_
  refine (R_virt (i := 135) (f := 16) (kd := 0) (na := 0) (ml := 1) (ci := 2) (n := 5) (b := 38) (As := []) (rest := [.int x3]) (by decide +kernel) (by decide +kernel) (by decide) (by decide +kernel) rfl (by decide +kernel) rfl rfl (by decide +kernel) (Nat.le_of_ble_eq_true rfl)).trans ?_
  rfl
theorem s140_85 {L : Nat} {mi : Nat → Nat → Int32} {ml : Nat → Nat → Int64} {d : Nat} {Q : Option Value → xM → Prop} {x3 x5 y z0 : Int32} {x1 z2 : Int64} {r4 : Nat} (hS_r4 : (SH L)[r4]? = some (4, 7)) : X 140 85 [.ref 2, .long x1, xmk, .int x3, .ref r4, .int x5] [.int y, .int z0, .ref r4, .long z2] (SH L, mi, ml, MR) (d + 1) Q =
    Xm 60 [.ref r4, .int z0, .int y] (SH L, mi, ml, MR) d (fun v μ' => X 140 88 [.ref 2, .long x1, xmk, .int x3, .ref r4, .int x5] (v.toList ++ [.long z2]) μ' (d + 1) Q) := by
  refine (R_virt (i := 143) (f := 60) (kd := 0) (na := 2) (ml := 3) (ci := 4) (n := 7) (b := r4) (As := [.int z0, .int y]) (rest := [.long z2]) (by decide +kernel) (by decide +kernel) (by decide) (by decide +kernel) rfl (by decide +kernel) hS_r4 rfl (by decide +kernel) (Nat.le_of_ble_eq_true rfl)).trans ?_
  rfl
theorem s140_33v3 {L : Nat} {mi : Nat → Nat → Int32} {ml : Nat → Nat → Int64} {d : Nat} {Q : Option Value → xM → Prop} {x3 x5 : Int32} {x1 : Int64} : X 140 33 [.ref 2, .long x1, xmk, .int x3, .null, .int x5] [] (SH L, mi, ml, MR) (d + 1) Q =
    Xm 16 [.ref 38] (SH L, mi, ml, MR) d (fun v μ' => X 140 41 [.ref 2, .long x1, xmk, .int x3, .null, .int x5] (v.toList ++ [.int x3]) μ' (d + 1) Q) := by
  refine (R_pure0 (ins := .iload_n 3) (len := 1) (loc' := [.ref 2, .long x1, xmk, .int x3, .null, .int x5]) (st' := [.int x3]) (by decide +kernel) (fun _ => rfl)).trans ?_
  refine (R_pure0 (ins := .aload_n 0) (len := 1) (loc' := [.ref 2, .long x1, xmk, .int x3, .null, .int x5]) (st' := [.ref 2, .int x3]) (by decide +kernel) (fun _ => rfl)).trans ?_
  refine (R_gr (i := 34) (ci := 9) (k := 4) (n := 12) (b := 38) (by decide +kernel) (by decide +kernel) (by decide) rfl (SH_ref (by decide +kernel))).trans ?_
  refine (R_virt (i := 135) (f := 16) (kd := 0) (na := 0) (ml := 1) (ci := 2) (n := 5) (b := 38) (As := []) (rest := [.int x3]) (by decide +kernel) (by decide +kernel) (by decide) (by decide +kernel) rfl (by decide +kernel) rfl rfl (by decide +kernel) (Nat.le_of_ble_eq_true rfl)).trans ?_
  rfl
theorem s140_139 {L : Nat} {mi : Nat → Nat → Int32} {ml : Nat → Nat → Int64} {d : Nat} {Q : Option Value → xM → Prop} {x3 y : Int32} {x1 z0 : Int64} {r4 : Nat} {n_r4 : Nat} (hS_r4 : isStrip L r4 n_r4) : X 140 139 [.ref 2, .long x1, xmk, .int x3, .ref r4, xmk] [.int y, .long z0] (SH L, mi, ml, MR) d Q =
    X 140 105 [.ref 2, .long (z0 + y.toInt64), xmk, .int (x3 + 1), .ref r4, xmk] [] (SH L, mi, ml, MR) d Q := by
  refine (R_pure0 (ins := .i2l) (len := 1) (loc' := [.ref 2, .long x1, xmk, .int x3, .ref r4, xmk]) (st' := [.long y.toInt64, .long z0]) (by decide +kernel) (fun _ => rfl)).trans ?_
  refine (R_pure0 (ins := .ladd) (len := 1) (loc' := [.ref 2, .long x1, xmk, .int x3, .ref r4, xmk]) (st' := [.long (z0 + y.toInt64)]) (by decide +kernel) (fun _ => rfl)).trans ?_
  refine (R_pure0 (ins := .lstore_n 1) (len := 1) (loc' := [.ref 2, .long (z0 + y.toInt64), xmk, .int x3, .ref r4, xmk]) (st' := []) (by decide +kernel) (fun _ => rfl)).trans ?_
  refine (R_iinc (k := 3) (n := 1) (x := x3) (v := (x3 + 1)) (loc' := [.ref 2, .long (z0 + y.toInt64), xmk, .int (x3 + 1), .ref r4, xmk]) (by decide +kernel) rfl rfl rfl).trans ?_
  refine (R_goto (off := (-40)) (t := 105) (by decide +kernel) (by decide +kernel)).trans ?_
  rfl
theorem s140_105v2 {L : Nat} {mi : Nat → Nat → Int32} {ml : Nat → Nat → Int64} {d : Nat} {Q : Option Value → xM → Prop} {x3 : Int32} {x1 : Int64} : X 140 105 [.ref 2, .long x1, xmk, .int x3, .null, xmk] [] (SH L, mi, ml, MR) (d + 1) Q =
    if (x3 < 3) then (Xm 82 [.ref 27, .int x3] (SH L, mi, ml, MR) d (fun v μ' => X 140 118 [.ref 2, .long x1, xmk, .int x3, .null, xmk] (v.toList ++ []) μ' (d + 1) Q)) else (Xm 85 [.ref 3, .long x1] (SH L, mi, ml, MR) d (fun v μ' => X 140 160 [.ref 2, .long x1, xmk, .int x3, .null, xmk] (v.toList ++ [.ref 17]) μ' (d + 1) Q)) := by
  refine (R_pure0 (ins := .iload_n 3) (len := 1) (loc' := [.ref 2, .long x1, xmk, .int x3, .null, xmk]) (st' := [.int x3]) (by decide +kernel) (fun _ => rfl)).trans ?_
  refine (R_iconst (n := 3) (v := 3) (by decide +kernel) (by decide +kernel)).trans ?_
  refine (R_icmp_ge (off := 41) (t := 148) (by decide +kernel) (by decide +kernel)).trans (ite_congr rfl (fun c0 => ?_) (fun c0 => ?_))
  · refine (R_pure0 (ins := .aload_n 0) (len := 1) (loc' := [.ref 2, .long x1, xmk, .int x3, .null, xmk]) (st' := [.ref 2]) (by decide +kernel) (fun _ => rfl)).trans ?_
    refine (R_gr (i := 21) (ci := 9) (k := 2) (n := 12) (b := 27) (by decide +kernel) (by decide +kernel) (by decide) rfl (SH_ref (by decide +kernel))).trans ?_
    refine (R_pure0 (ins := .iload_n 3) (len := 1) (loc' := [.ref 2, .long x1, xmk, .int x3, .null, xmk]) (st' := [.int x3, .ref 27]) (by decide +kernel) (fun _ => rfl)).trans ?_
    refine (R_virt (i := 81) (f := 82) (kd := 0) (na := 1) (ml := 2) (ci := 7) (n := 1) (b := 27) (As := [.int x3]) (rest := []) (by decide +kernel) (by decide +kernel) (by decide) (by decide +kernel) rfl (by decide +kernel) rfl rfl (by decide +kernel) (Nat.le_of_ble_eq_true rfl)).trans ?_
    rfl
  · refine (R_pure0 (ins := .aload_n 0) (len := 1) (loc' := [.ref 2, .long x1, xmk, .int x3, .null, xmk]) (st' := [.ref 2]) (by decide +kernel) (fun _ => rfl)).trans ?_
    refine (R_gr (i := 18) (ci := 9) (k := 1) (n := 12) (b := 17) (by decide +kernel) (by decide +kernel) (by decide) rfl (SH_ref (by decide +kernel))).trans ?_
    refine (R_pure0 (ins := .aload_n 0) (len := 1) (loc' := [.ref 2, .long x1, xmk, .int x3, .null, xmk]) (st' := [.ref 2, .ref 17]) (by decide +kernel) (fun _ => rfl)).trans ?_
    refine (R_gr (i := 14) (ci := 9) (k := 0) (n := 12) (b := 3) (by decide +kernel) (by decide +kernel) (by decide) rfl (SH_ref (by decide +kernel))).trans ?_
    refine (R_pure0 (ins := .lload_n 1) (len := 1) (loc' := [.ref 2, .long x1, xmk, .int x3, .null, xmk]) (st' := [.long x1, .ref 3, .ref 17]) (by decide +kernel) (fun _ => rfl)).trans ?_
    refine (R_virt (i := 325) (f := 85) (kd := 0) (na := 1) (ml := 8) (ci := 7) (n := 1) (b := 3) (As := [.long x1]) (rest := [.ref 17]) (by decide +kernel) (by decide +kernel) (by decide) (by decide +kernel) rfl (by decide +kernel) rfl rfl (by decide +kernel) (Nat.le_of_ble_eq_true rfl)).trans ?_
    rfl
theorem s140_163 {L : Nat} {mi : Nat → Nat → Int32} {ml : Nat → Nat → Int64} {d : Nat} {Q : Option Value → xM → Prop} {x3 : Int32} {x1 y : Int64} : X 140 163 [.ref 2, .long x1, xmk, .int x3, xmk, xmk] [.long y] (SH L, mi, ml, MR) d Q =
    Q (some (.long y)) (SH L, mi, ml, MR) := by
  exact R_lreturn (by decide +kernel) (by decide +kernel)
theorem s140_41v2 {L : Nat} {mi : Nat → Nat → Int32} {ml : Nat → Nat → Int64} {d : Nat} {Q : Option Value → xM → Prop} {x3 x5 y z0 : Int32} {x1 : Int64} {r4 : Nat} (hS_r4 : (SH L)[r4]? = some (4, 7)) : X 140 41 [.ref 2, .long x1, xmk, .int x3, .ref r4, .int x5] [.int y, .int z0] (SH L, mi, ml, MR) (d + 1) Q =
    if (z0 < y) then (Xm 15 [.ref 38, .int x3] (SH L, mi, ml, MR) d (fun v μ' => X 140 52 [.ref 2, .long x1, xmk, .int x3, .ref r4, .int x5] (v.toList ++ []) μ' (d + 1) Q)) else (X 140 105 [.ref 2, .long x1, xmk, .int 0, .ref r4, .int x5] [] (SH L, mi, ml, MR) (d + 1) Q) := by
  refine (R_icmp_ge (off := 62) (t := 103) (by decide +kernel) (by decide +kernel)).trans (ite_congr rfl (fun c0 => ?_) (fun c0 => ?_))
  · refine (R_pure0 (ins := .aload_n 0) (len := 1) (loc' := [.ref 2, .long x1, xmk, .int x3, .ref r4, .int x5]) (st' := [.ref 2]) (by decide +kernel) (fun _ => rfl)).trans ?_
    refine (R_gr (i := 34) (ci := 9) (k := 4) (n := 12) (b := 38) (by decide +kernel) (by decide +kernel) (by decide) rfl (SH_ref (by decide +kernel))).trans ?_
    refine (R_pure0 (ins := .iload_n 3) (len := 1) (loc' := [.ref 2, .long x1, xmk, .int x3, .ref r4, .int x5]) (st' := [.int x3, .ref 38]) (by decide +kernel) (fun _ => rfl)).trans ?_
    refine (R_virt (i := 136) (f := 15) (kd := 0) (na := 1) (ml := 2) (ci := 2) (n := 5) (b := 38) (As := [.int x3]) (rest := []) (by decide +kernel) (by decide +kernel) (by decide) (by decide +kernel) rfl (by decide +kernel) rfl rfl (by decide +kernel) (Nat.le_of_ble_eq_true rfl)).trans ?_
    rfl
  · refine (R_iconst (n := 0) (v := 0) (by decide +kernel) (by decide +kernel)).trans ?_
    refine (R_pure0 (ins := .istore_n 3) (len := 1) (loc' := [.ref 2, .long x1, xmk, .int 0, .ref r4, .int x5]) (st' := []) (by decide +kernel) (fun _ => rfl)).trans ?_
    rfl
theorem s140_88 {L : Nat} {mi : Nat → Nat → Int32} {ml : Nat → Nat → Int64} {d : Nat} {Q : Option Value → xM → Prop} {x3 x5 y : Int32} {x1 z0 : Int64} {r4 : Nat} (hS_r4 : (SH L)[r4]? = some (4, 7)) : X 140 88 [.ref 2, .long x1, xmk, .int x3, .ref r4, .int x5] [.int y, .long z0] (SH L, mi, ml, MR) d Q =
    X 140 57 [.ref 2, .long (z0 + y.toInt64), xmk, .int x3, .ref r4, .int (x5 + 1)] [] (SH L, mi, ml, MR) d Q := by
  refine (R_pure0 (ins := .i2l) (len := 1) (loc' := [.ref 2, .long x1, xmk, .int x3, .ref r4, .int x5]) (st' := [.long y.toInt64, .long z0]) (by decide +kernel) (fun _ => rfl)).trans ?_
  refine (R_pure0 (ins := .ladd) (len := 1) (loc' := [.ref 2, .long x1, xmk, .int x3, .ref r4, .int x5]) (st' := [.long (z0 + y.toInt64)]) (by decide +kernel) (fun _ => rfl)).trans ?_
  refine (R_pure0 (ins := .lstore_n 1) (len := 1) (loc' := [.ref 2, .long (z0 + y.toInt64), xmk, .int x3, .ref r4, .int x5]) (st' := []) (by decide +kernel) (fun _ => rfl)).trans ?_
  refine (R_iinc (k := 5) (n := 1) (x := x5) (v := (x5 + 1)) (loc' := [.ref 2, .long (z0 + y.toInt64), xmk, .int x3, .ref r4, .int (x5 + 1)]) (by decide +kernel) rfl rfl rfl).trans ?_
  refine (R_goto (off := (-37)) (t := 57) (by decide +kernel) (by decide +kernel)).trans ?_
  rfl
theorem s140_41v3 {L : Nat} {mi : Nat → Nat → Int32} {ml : Nat → Nat → Int64} {d : Nat} {Q : Option Value → xM → Prop} {x3 x5 y z0 : Int32} {x1 : Int64} : X 140 41 [.ref 2, .long x1, xmk, .int x3, .null, .int x5] [.int y, .int z0] (SH L, mi, ml, MR) (d + 1) Q =
    if (z0 < y) then (Xm 15 [.ref 38, .int x3] (SH L, mi, ml, MR) d (fun v μ' => X 140 52 [.ref 2, .long x1, xmk, .int x3, .null, .int x5] (v.toList ++ []) μ' (d + 1) Q)) else (X 140 105 [.ref 2, .long x1, xmk, .int 0, .null, .int x5] [] (SH L, mi, ml, MR) (d + 1) Q) := by
  refine (R_icmp_ge (off := 62) (t := 103) (by decide +kernel) (by decide +kernel)).trans (ite_congr rfl (fun c0 => ?_) (fun c0 => ?_))
  · refine (R_pure0 (ins := .aload_n 0) (len := 1) (loc' := [.ref 2, .long x1, xmk, .int x3, .null, .int x5]) (st' := [.ref 2]) (by decide +kernel) (fun _ => rfl)).trans ?_
    refine (R_gr (i := 34) (ci := 9) (k := 4) (n := 12) (b := 38) (by decide +kernel) (by decide +kernel) (by decide) rfl (SH_ref (by decide +kernel))).trans ?_
    refine (R_pure0 (ins := .iload_n 3) (len := 1) (loc' := [.ref 2, .long x1, xmk, .int x3, .null, .int x5]) (st' := [.int x3, .ref 38]) (by decide +kernel) (fun _ => rfl)).trans ?_
    refine (R_virt (i := 136) (f := 15) (kd := 0) (na := 1) (ml := 2) (ci := 2) (n := 5) (b := 38) (As := [.int x3]) (rest := []) (by decide +kernel) (by decide +kernel) (by decide) (by decide +kernel) rfl (by decide +kernel) rfl rfl (by decide +kernel) (Nat.le_of_ble_eq_true rfl)).trans ?_
    rfl
  · refine (R_iconst (n := 0) (v := 0) (by decide +kernel) (by decide +kernel)).trans ?_
    refine (R_pure0 (ins := .istore_n 3) (len := 1) (loc' := [.ref 2, .long x1, xmk, .int 0, .null, .int x5]) (st' := []) (by decide +kernel) (fun _ => rfl)).trans ?_
    rfl
theorem s140_105v3 {L : Nat} {mi : Nat → Nat → Int32} {ml : Nat → Nat → Int64} {d : Nat} {Q : Option Value → xM → Prop} {x3 : Int32} {x1 : Int64} {r4 : Nat} {n_r4 : Nat} (hS_r4 : isStrip L r4 n_r4) : X 140 105 [.ref 2, .long x1, xmk, .int x3, .ref r4, xmk] [] (SH L, mi, ml, MR) (d + 1) Q =
    if (x3 < 3) then (Xm 82 [.ref 27, .int x3] (SH L, mi, ml, MR) d (fun v μ' => X 140 118 [.ref 2, .long x1, xmk, .int x3, .ref r4, xmk] (v.toList ++ []) μ' (d + 1) Q)) else (Xm 85 [.ref 3, .long x1] (SH L, mi, ml, MR) d (fun v μ' => X 140 160 [.ref 2, .long x1, xmk, .int x3, .ref r4, xmk] (v.toList ++ [.ref 17]) μ' (d + 1) Q)) := by
  refine (R_pure0 (ins := .iload_n 3) (len := 1) (loc' := [.ref 2, .long x1, xmk, .int x3, .ref r4, xmk]) (st' := [.int x3]) (by decide +kernel) (fun _ => rfl)).trans ?_
  refine (R_iconst (n := 3) (v := 3) (by decide +kernel) (by decide +kernel)).trans ?_
  refine (R_icmp_ge (off := 41) (t := 148) (by decide +kernel) (by decide +kernel)).trans (ite_congr rfl (fun c0 => ?_) (fun c0 => ?_))
  · refine (R_pure0 (ins := .aload_n 0) (len := 1) (loc' := [.ref 2, .long x1, xmk, .int x3, .ref r4, xmk]) (st' := [.ref 2]) (by decide +kernel) (fun _ => rfl)).trans ?_
    refine (R_gr (i := 21) (ci := 9) (k := 2) (n := 12) (b := 27) (by decide +kernel) (by decide +kernel) (by decide) rfl (SH_ref (by decide +kernel))).trans ?_
    refine (R_pure0 (ins := .iload_n 3) (len := 1) (loc' := [.ref 2, .long x1, xmk, .int x3, .ref r4, xmk]) (st' := [.int x3, .ref 27]) (by decide +kernel) (fun _ => rfl)).trans ?_
    refine (R_virt (i := 81) (f := 82) (kd := 0) (na := 1) (ml := 2) (ci := 7) (n := 1) (b := 27) (As := [.int x3]) (rest := []) (by decide +kernel) (by decide +kernel) (by decide) (by decide +kernel) rfl (by decide +kernel) rfl rfl (by decide +kernel) (Nat.le_of_ble_eq_true rfl)).trans ?_
    rfl
  · refine (R_pure0 (ins := .aload_n 0) (len := 1) (loc' := [.ref 2, .long x1, xmk, .int x3, .ref r4, xmk]) (st' := [.ref 2]) (by decide +kernel) (fun _ => rfl)).trans ?_
    refine (R_gr (i := 18) (ci := 9) (k := 1) (n := 12) (b := 17) (by decide +kernel) (by decide +kernel) (by decide) rfl (SH_ref (by decide +kernel))).trans ?_
    refine (R_pure0 (ins := .aload_n 0) (len := 1) (loc' := [.ref 2, .long x1, xmk, .int x3, .ref r4, xmk]) (st' := [.ref 2, .ref 17]) (by decide +kernel) (fun _ => rfl)).trans ?_
    refine (R_gr (i := 14) (ci := 9) (k := 0) (n := 12) (b := 3) (by decide +kernel) (by decide +kernel) (by decide) rfl (SH_ref (by decide +kernel))).trans ?_
    refine (R_pure0 (ins := .lload_n 1) (len := 1) (loc' := [.ref 2, .long x1, xmk, .int x3, .ref r4, xmk]) (st' := [.long x1, .ref 3, .ref 17]) (by decide +kernel) (fun _ => rfl)).trans ?_
    refine (R_virt (i := 325) (f := 85) (kd := 0) (na := 1) (ml := 8) (ci := 7) (n := 1) (b := 3) (As := [.long x1]) (rest := [.ref 17]) (by decide +kernel) (by decide +kernel) (by decide) (by decide +kernel) rfl (by decide +kernel) rfl rfl (by decide +kernel) (Nat.le_of_ble_eq_true rfl)).trans ?_
    rfl
theorem s140_118v2 {L : Nat} {mi : Nat → Nat → Int32} {ml : Nat → Nat → Int64} {d : Nat} {Q : Option Value → xM → Prop} {x3 : Int32} {x1 : Int64} {ry : Nat} {n_ry : Nat} (hS_ry : isStrip L ry n_ry) : X 140 118 [.ref 2, .long x1, xmk, .int x3, .null, xmk] [.ref ry] (SH L, mi, ml, MR) (d + 1) Q =
    Xm 88 [.ref ry] (SH L, mi, ml, MR) d (fun v μ' => X 140 139 [.ref 2, .long x1, xmk, .int x3, .ref ry, xmk] (v.toList ++ [.long (31 * x1)]) μ' (d + 1) Q) := by
  refine (R_pure0 (ins := .astore 4) (len := 2) (loc' := [.ref 2, .long x1, xmk, .int x3, .ref ry, xmk]) (st' := []) (by decide +kernel) (fun _ => rfl)).trans ?_
  refine (R_pure0 (ins := .aload 4) (len := 2) (loc' := [.ref 2, .long x1, xmk, .int x3, .ref ry, xmk]) (st' := [.ref ry]) (by decide +kernel) (fun _ => rfl)).trans ?_
  refine (R_ifnonnull_r (off := 7) (t := 129) (by decide +kernel) (by decide +kernel)).trans ?_
  refine (R_ldc2 (i := 320) (v := 31) (by decide +kernel) (by decide +kernel)).trans ?_
  refine (R_pure0 (ins := .lload_n 1) (len := 1) (loc' := [.ref 2, .long x1, xmk, .int x3, .ref ry, xmk]) (st' := [.long x1, .long 31]) (by decide +kernel) (fun _ => rfl)).trans ?_
  refine (R_pure0 (ins := .lmul) (len := 1) (loc' := [.ref 2, .long x1, xmk, .int x3, .ref ry, xmk]) (st' := [.long (31 * x1)]) (by decide +kernel) (fun _ => rfl)).trans ?_
  refine (R_pure0 (ins := .aload 4) (len := 2) (loc' := [.ref 2, .long x1, xmk, .int x3, .ref ry, xmk]) (st' := [.ref ry, .long (31 * x1)]) (by decide +kernel) (fun _ => rfl)).trans ?_
  refine (R_virt (i := 120) (f := 88) (kd := 0) (na := 0) (ml := 1) (ci := 8) (n := 2) (b := ry) (As := []) (rest := [.long (31 * x1)]) (by decide +kernel) (by decide +kernel) (by decide) (by decide +kernel) rfl (by decide +kernel) hS_ry.1 rfl (by decide +kernel) (Nat.le_of_ble_eq_true rfl)).trans ?_
  rfl
theorem s140_118nv2 {L : Nat} {mi : Nat → Nat → Int32} {ml : Nat → Nat → Int64} {d : Nat} {Q : Option Value → xM → Prop} {x3 : Int32} {x1 : Int64} : X 140 118 [.ref 2, .long x1, xmk, .int x3, .null, xmk] [.null] (SH L, mi, ml, MR) d Q =
    X 140 105 [.ref 2, .long x1, xmk, .int (x3 + 1), .null, xmk] [] (SH L, mi, ml, MR) d Q := by
  refine (R_pure0 (ins := .astore 4) (len := 2) (loc' := [.ref 2, .long x1, xmk, .int x3, .null, xmk]) (st' := []) (by decide +kernel) (fun _ => rfl)).trans ?_
  refine (R_pure0 (ins := .aload 4) (len := 2) (loc' := [.ref 2, .long x1, xmk, .int x3, .null, xmk]) (st' := [.null]) (by decide +kernel) (fun _ => rfl)).trans ?_
  refine (R_ifnonnull_n (off := 7) (by decide +kernel)).trans ?_
  refine (R_pure0 (ins := .lload_n 1) (len := 1) (loc' := [.ref 2, .long x1, xmk, .int x3, .null, xmk]) (st' := [.long x1]) (by decide +kernel) (fun _ => rfl)).trans ?_
  refine (R_goto (off := 15) (t := 141) (by decide +kernel) (by decide +kernel)).trans ?_
  refine (R_pure0 (ins := .lstore_n 1) (len := 1) (loc' := [.ref 2, .long x1, xmk, .int x3, .null, xmk]) (st' := []) (by decide +kernel) (fun _ => rfl)).trans ?_
  refine (R_iinc (k := 3) (n := 1) (x := x3) (v := (x3 + 1)) (loc' := [.ref 2, .long x1, xmk, .int (x3 + 1), .null, xmk]) (by decide +kernel) rfl rfl rfl).trans ?_
  refine (R_goto (off := (-40)) (t := 105) (by decide +kernel) (by decide +kernel)).trans ?_
  rfl
theorem s140_160v2 {L : Nat} {mi : Nat → Nat → Int32} {ml : Nat → Nat → Int64} {d : Nat} {Q : Option Value → xM → Prop} {x3 : Int32} {x1 y : Int64} : X 140 160 [.ref 2, .long x1, xmk, .int x3, .null, xmk] [.long y, .ref 17] (SH L, mi, ml, MR) (d + 1) Q =
    Xm 85 [.ref 17, .long y] (SH L, mi, ml, MR) d (fun v μ' => X 140 163 [.ref 2, .long x1, xmk, .int x3, .null, xmk] (v.toList ++ []) μ' (d + 1) Q) := by
  refine (R_virt (i := 325) (f := 85) (kd := 0) (na := 1) (ml := 8) (ci := 7) (n := 1) (b := 17) (As := [.long y]) (rest := []) (by decide +kernel) (by decide +kernel) (by decide) (by decide +kernel) rfl (by decide +kernel) rfl rfl (by decide +kernel) (Nat.le_of_ble_eq_true rfl)).trans ?_
  rfl
theorem s140_52v2 {L : Nat} {mi : Nat → Nat → Int32} {ml : Nat → Nat → Int64} {d : Nat} {Q : Option Value → xM → Prop} {x3 x5 : Int32} {x1 : Int64} {r4 ry : Nat} (hS_r4 : (SH L)[r4]? = some (4, 7)) (hS_ry : (SH L)[ry]? = some (4, 7)) : X 140 52 [.ref 2, .long x1, xmk, .int x3, .ref r4, .int x5] [.ref ry] (SH L, mi, ml, MR) d Q =
    X 140 57 [.ref 2, .long x1, xmk, .int x3, .ref ry, .int 0] [] (SH L, mi, ml, MR) d Q := by
  refine (R_pure0 (ins := .astore 4) (len := 2) (loc' := [.ref 2, .long x1, xmk, .int x3, .ref ry, .int x5]) (st' := []) (by decide +kernel) (fun _ => rfl)).trans ?_
  refine (R_iconst (n := 0) (v := 0) (by decide +kernel) (by decide +kernel)).trans ?_
  refine (R_pure0 (ins := .istore 5) (len := 2) (loc' := [.ref 2, .long x1, xmk, .int x3, .ref ry, .int 0]) (st' := []) (by decide +kernel) (fun _ => rfl)).trans ?_
  rfl
theorem s140_52nv2 {L : Nat} {mi : Nat → Nat → Int32} {ml : Nat → Nat → Int64} {d : Nat} {Q : Option Value → xM → Prop} {x3 x5 : Int32} {x1 : Int64} {r4 : Nat} (hS_r4 : (SH L)[r4]? = some (4, 7)) : X 140 52 [.ref 2, .long x1, xmk, .int x3, .ref r4, .int x5] [.null] (SH L, mi, ml, MR) d Q =
    X 140 57 [.ref 2, .long x1, xmk, .int x3, .null, .int 0] [] (SH L, mi, ml, MR) d Q := by
  refine (R_pure0 (ins := .astore 4) (len := 2) (loc' := [.ref 2, .long x1, xmk, .int x3, .null, .int x5]) (st' := []) (by decide +kernel) (fun _ => rfl)).trans ?_
  refine (R_iconst (n := 0) (v := 0) (by decide +kernel) (by decide +kernel)).trans ?_
  refine (R_pure0 (ins := .istore 5) (len := 2) (loc' := [.ref 2, .long x1, xmk, .int x3, .null, .int 0]) (st' := []) (by decide +kernel) (fun _ => rfl)).trans ?_
  rfl
theorem s140_105v4 {L : Nat} {mi : Nat → Nat → Int32} {ml : Nat → Nat → Int64} {d : Nat} {Q : Option Value → xM → Prop} {x3 x5 : Int32} {x1 : Int64} {r4 : Nat} (hS_r4 : (SH L)[r4]? = some (4, 7)) : X 140 105 [.ref 2, .long x1, xmk, .int x3, .ref r4, .int x5] [] (SH L, mi, ml, MR) (d + 1) Q =
    if (x3 < 3) then (Xm 82 [.ref 27, .int x3] (SH L, mi, ml, MR) d (fun v μ' => X 140 118 [.ref 2, .long x1, xmk, .int x3, .ref r4, .int x5] (v.toList ++ []) μ' (d + 1) Q)) else (Xm 85 [.ref 3, .long x1] (SH L, mi, ml, MR) d (fun v μ' => X 140 160 [.ref 2, .long x1, xmk, .int x3, .ref r4, .int x5] (v.toList ++ [.ref 17]) μ' (d + 1) Q)) := by
  refine (R_pure0 (ins := .iload_n 3) (len := 1) (loc' := [.ref 2, .long x1, xmk, .int x3, .ref r4, .int x5]) (st' := [.int x3]) (by decide +kernel) (fun _ => rfl)).trans ?_
  refine (R_iconst (n := 3) (v := 3) (by decide +kernel) (by decide +kernel)).trans ?_
  refine (R_icmp_ge (off := 41) (t := 148) (by decide +kernel) (by decide +kernel)).trans (ite_congr rfl (fun c0 => ?_) (fun c0 => ?_))
  · refine (R_pure0 (ins := .aload_n 0) (len := 1) (loc' := [.ref 2, .long x1, xmk, .int x3, .ref r4, .int x5]) (st' := [.ref 2]) (by decide +kernel) (fun _ => rfl)).trans ?_
    refine (R_gr (i := 21) (ci := 9) (k := 2) (n := 12) (b := 27) (by decide +kernel) (by decide +kernel) (by decide) rfl (SH_ref (by decide +kernel))).trans ?_
    refine (R_pure0 (ins := .iload_n 3) (len := 1) (loc' := [.ref 2, .long x1, xmk, .int x3, .ref r4, .int x5]) (st' := [.int x3, .ref 27]) (by decide +kernel) (fun _ => rfl)).trans ?_
    refine (R_virt (i := 81) (f := 82) (kd := 0) (na := 1) (ml := 2) (ci := 7) (n := 1) (b := 27) (As := [.int x3]) (rest := []) (by decide +kernel) (by decide +kernel) (by decide) (by decide +kernel) rfl (by decide +kernel) rfl rfl (by decide +kernel) (Nat.le_of_ble_eq_true rfl)).trans ?_
    rfl
  · refine (R_pure0 (ins := .aload_n 0) (len := 1) (loc' := [.ref 2, .long x1, xmk, .int x3, .ref r4, .int x5]) (st' := [.ref 2]) (by decide +kernel) (fun _ => rfl)).trans ?_
    refine (R_gr (i := 18) (ci := 9) (k := 1) (n := 12) (b := 17) (by decide +kernel) (by decide +kernel) (by decide) rfl (SH_ref (by decide +kernel))).trans ?_
    refine (R_pure0 (ins := .aload_n 0) (len := 1) (loc' := [.ref 2, .long x1, xmk, .int x3, .ref r4, .int x5]) (st' := [.ref 2, .ref 17]) (by decide +kernel) (fun _ => rfl)).trans ?_
    refine (R_gr (i := 14) (ci := 9) (k := 0) (n := 12) (b := 3) (by decide +kernel) (by decide +kernel) (by decide) rfl (SH_ref (by decide +kernel))).trans ?_
    refine (R_pure0 (ins := .lload_n 1) (len := 1) (loc' := [.ref 2, .long x1, xmk, .int x3, .ref r4, .int x5]) (st' := [.long x1, .ref 3, .ref 17]) (by decide +kernel) (fun _ => rfl)).trans ?_
    refine (R_virt (i := 325) (f := 85) (kd := 0) (na := 1) (ml := 8) (ci := 7) (n := 1) (b := 3) (As := [.long x1]) (rest := [.ref 17]) (by decide +kernel) (by decide +kernel) (by decide) (by decide +kernel) rfl (by decide +kernel) rfl rfl (by decide +kernel) (Nat.le_of_ble_eq_true rfl)).trans ?_
    rfl
theorem s140_52v3 {L : Nat} {mi : Nat → Nat → Int32} {ml : Nat → Nat → Int64} {d : Nat} {Q : Option Value → xM → Prop} {x3 x5 : Int32} {x1 : Int64} {ry : Nat} (hS_ry : (SH L)[ry]? = some (4, 7)) : X 140 52 [.ref 2, .long x1, xmk, .int x3, .null, .int x5] [.ref ry] (SH L, mi, ml, MR) d Q =
    X 140 57 [.ref 2, .long x1, xmk, .int x3, .ref ry, .int 0] [] (SH L, mi, ml, MR) d Q := by
  refine (R_pure0 (ins := .astore 4) (len := 2) (loc' := [.ref 2, .long x1, xmk, .int x3, .ref ry, .int x5]) (st' := []) (by decide +kernel) (fun _ => rfl)).trans ?_
  refine (R_iconst (n := 0) (v := 0) (by decide +kernel) (by decide +kernel)).trans ?_
  refine (R_pure0 (ins := .istore 5) (len := 2) (loc' := [.ref 2, .long x1, xmk, .int x3, .ref ry, .int 0]) (st' := []) (by decide +kernel) (fun _ => rfl)).trans ?_
  rfl
theorem s140_52nv3 {L : Nat} {mi : Nat → Nat → Int32} {ml : Nat → Nat → Int64} {d : Nat} {Q : Option Value → xM → Prop} {x3 x5 : Int32} {x1 : Int64} : X 140 52 [.ref 2, .long x1, xmk, .int x3, .null, .int x5] [.null] (SH L, mi, ml, MR) d Q =
    X 140 57 [.ref 2, .long x1, xmk, .int x3, .null, .int 0] [] (SH L, mi, ml, MR) d Q := by
  refine (R_pure0 (ins := .astore 4) (len := 2) (loc' := [.ref 2, .long x1, xmk, .int x3, .null, .int x5]) (st' := []) (by decide +kernel) (fun _ => rfl)).trans ?_
  refine (R_iconst (n := 0) (v := 0) (by decide +kernel) (by decide +kernel)).trans ?_
  refine (R_pure0 (ins := .istore 5) (len := 2) (loc' := [.ref 2, .long x1, xmk, .int x3, .null, .int 0]) (st' := []) (by decide +kernel) (fun _ => rfl)).trans ?_
  rfl
theorem s140_105v5 {L : Nat} {mi : Nat → Nat → Int32} {ml : Nat → Nat → Int64} {d : Nat} {Q : Option Value → xM → Prop} {x3 x5 : Int32} {x1 : Int64} : X 140 105 [.ref 2, .long x1, xmk, .int x3, .null, .int x5] [] (SH L, mi, ml, MR) (d + 1) Q =
    if (x3 < 3) then (Xm 82 [.ref 27, .int x3] (SH L, mi, ml, MR) d (fun v μ' => X 140 118 [.ref 2, .long x1, xmk, .int x3, .null, .int x5] (v.toList ++ []) μ' (d + 1) Q)) else (Xm 85 [.ref 3, .long x1] (SH L, mi, ml, MR) d (fun v μ' => X 140 160 [.ref 2, .long x1, xmk, .int x3, .null, .int x5] (v.toList ++ [.ref 17]) μ' (d + 1) Q)) := by
  refine (R_pure0 (ins := .iload_n 3) (len := 1) (loc' := [.ref 2, .long x1, xmk, .int x3, .null, .int x5]) (st' := [.int x3]) (by decide +kernel) (fun _ => rfl)).trans ?_
  refine (R_iconst (n := 3) (v := 3) (by decide +kernel) (by decide +kernel)).trans ?_
  refine (R_icmp_ge (off := 41) (t := 148) (by decide +kernel) (by decide +kernel)).trans (ite_congr rfl (fun c0 => ?_) (fun c0 => ?_))
  · refine (R_pure0 (ins := .aload_n 0) (len := 1) (loc' := [.ref 2, .long x1, xmk, .int x3, .null, .int x5]) (st' := [.ref 2]) (by decide +kernel) (fun _ => rfl)).trans ?_
    refine (R_gr (i := 21) (ci := 9) (k := 2) (n := 12) (b := 27) (by decide +kernel) (by decide +kernel) (by decide) rfl (SH_ref (by decide +kernel))).trans ?_
    refine (R_pure0 (ins := .iload_n 3) (len := 1) (loc' := [.ref 2, .long x1, xmk, .int x3, .null, .int x5]) (st' := [.int x3, .ref 27]) (by decide +kernel) (fun _ => rfl)).trans ?_
    refine (R_virt (i := 81) (f := 82) (kd := 0) (na := 1) (ml := 2) (ci := 7) (n := 1) (b := 27) (As := [.int x3]) (rest := []) (by decide +kernel) (by decide +kernel) (by decide) (by decide +kernel) rfl (by decide +kernel) rfl rfl (by decide +kernel) (Nat.le_of_ble_eq_true rfl)).trans ?_
    rfl
  · refine (R_pure0 (ins := .aload_n 0) (len := 1) (loc' := [.ref 2, .long x1, xmk, .int x3, .null, .int x5]) (st' := [.ref 2]) (by decide +kernel) (fun _ => rfl)).trans ?_
    refine (R_gr (i := 18) (ci := 9) (k := 1) (n := 12) (b := 17) (by decide +kernel) (by decide +kernel) (by decide) rfl (SH_ref (by decide +kernel))).trans ?_
    refine (R_pure0 (ins := .aload_n 0) (len := 1) (loc' := [.ref 2, .long x1, xmk, .int x3, .null, .int x5]) (st' := [.ref 2, .ref 17]) (by decide +kernel) (fun _ => rfl)).trans ?_
    refine (R_gr (i := 14) (ci := 9) (k := 0) (n := 12) (b := 3) (by decide +kernel) (by decide +kernel) (by decide) rfl (SH_ref (by decide +kernel))).trans ?_
    refine (R_pure0 (ins := .lload_n 1) (len := 1) (loc' := [.ref 2, .long x1, xmk, .int x3, .null, .int x5]) (st' := [.long x1, .ref 3, .ref 17]) (by decide +kernel) (fun _ => rfl)).trans ?_
    refine (R_virt (i := 325) (f := 85) (kd := 0) (na := 1) (ml := 8) (ci := 7) (n := 1) (b := 3) (As := [.long x1]) (rest := [.ref 17]) (by decide +kernel) (by decide +kernel) (by decide) (by decide +kernel) rfl (by decide +kernel) rfl rfl (by decide +kernel) (Nat.le_of_ble_eq_true rfl)).trans ?_
    rfl
theorem s140_118v3 {L : Nat} {mi : Nat → Nat → Int32} {ml : Nat → Nat → Int64} {d : Nat} {Q : Option Value → xM → Prop} {x3 : Int32} {x1 : Int64} {r4 ry : Nat} {n_r4 : Nat} {n_ry : Nat} (hS_r4 : isStrip L r4 n_r4) (hS_ry : isStrip L ry n_ry) : X 140 118 [.ref 2, .long x1, xmk, .int x3, .ref r4, xmk] [.ref ry] (SH L, mi, ml, MR) (d + 1) Q =
    Xm 88 [.ref ry] (SH L, mi, ml, MR) d (fun v μ' => X 140 139 [.ref 2, .long x1, xmk, .int x3, .ref ry, xmk] (v.toList ++ [.long (31 * x1)]) μ' (d + 1) Q) := by
  refine (R_pure0 (ins := .astore 4) (len := 2) (loc' := [.ref 2, .long x1, xmk, .int x3, .ref ry, xmk]) (st' := []) (by decide +kernel) (fun _ => rfl)).trans ?_
  refine (R_pure0 (ins := .aload 4) (len := 2) (loc' := [.ref 2, .long x1, xmk, .int x3, .ref ry, xmk]) (st' := [.ref ry]) (by decide +kernel) (fun _ => rfl)).trans ?_
  refine (R_ifnonnull_r (off := 7) (t := 129) (by decide +kernel) (by decide +kernel)).trans ?_
  refine (R_ldc2 (i := 320) (v := 31) (by decide +kernel) (by decide +kernel)).trans ?_
  refine (R_pure0 (ins := .lload_n 1) (len := 1) (loc' := [.ref 2, .long x1, xmk, .int x3, .ref ry, xmk]) (st' := [.long x1, .long 31]) (by decide +kernel) (fun _ => rfl)).trans ?_
  refine (R_pure0 (ins := .lmul) (len := 1) (loc' := [.ref 2, .long x1, xmk, .int x3, .ref ry, xmk]) (st' := [.long (31 * x1)]) (by decide +kernel) (fun _ => rfl)).trans ?_
  refine (R_pure0 (ins := .aload 4) (len := 2) (loc' := [.ref 2, .long x1, xmk, .int x3, .ref ry, xmk]) (st' := [.ref ry, .long (31 * x1)]) (by decide +kernel) (fun _ => rfl)).trans ?_
  refine (R_virt (i := 120) (f := 88) (kd := 0) (na := 0) (ml := 1) (ci := 8) (n := 2) (b := ry) (As := []) (rest := [.long (31 * x1)]) (by decide +kernel) (by decide +kernel) (by decide) (by decide +kernel) rfl (by decide +kernel) hS_ry.1 rfl (by decide +kernel) (Nat.le_of_ble_eq_true rfl)).trans ?_
  rfl
theorem s140_118nv3 {L : Nat} {mi : Nat → Nat → Int32} {ml : Nat → Nat → Int64} {d : Nat} {Q : Option Value → xM → Prop} {x3 : Int32} {x1 : Int64} {r4 : Nat} {n_r4 : Nat} (hS_r4 : isStrip L r4 n_r4) : X 140 118 [.ref 2, .long x1, xmk, .int x3, .ref r4, xmk] [.null] (SH L, mi, ml, MR) d Q =
    X 140 105 [.ref 2, .long x1, xmk, .int (x3 + 1), .null, xmk] [] (SH L, mi, ml, MR) d Q := by
  refine (R_pure0 (ins := .astore 4) (len := 2) (loc' := [.ref 2, .long x1, xmk, .int x3, .null, xmk]) (st' := []) (by decide +kernel) (fun _ => rfl)).trans ?_
  refine (R_pure0 (ins := .aload 4) (len := 2) (loc' := [.ref 2, .long x1, xmk, .int x3, .null, xmk]) (st' := [.null]) (by decide +kernel) (fun _ => rfl)).trans ?_
  refine (R_ifnonnull_n (off := 7) (by decide +kernel)).trans ?_
  refine (R_pure0 (ins := .lload_n 1) (len := 1) (loc' := [.ref 2, .long x1, xmk, .int x3, .null, xmk]) (st' := [.long x1]) (by decide +kernel) (fun _ => rfl)).trans ?_
  refine (R_goto (off := 15) (t := 141) (by decide +kernel) (by decide +kernel)).trans ?_
  refine (R_pure0 (ins := .lstore_n 1) (len := 1) (loc' := [.ref 2, .long x1, xmk, .int x3, .null, xmk]) (st' := []) (by decide +kernel) (fun _ => rfl)).trans ?_
  refine (R_iinc (k := 3) (n := 1) (x := x3) (v := (x3 + 1)) (loc' := [.ref 2, .long x1, xmk, .int (x3 + 1), .null, xmk]) (by decide +kernel) rfl rfl rfl).trans ?_
  refine (R_goto (off := (-40)) (t := 105) (by decide +kernel) (by decide +kernel)).trans ?_
  rfl
theorem s140_160v3 {L : Nat} {mi : Nat → Nat → Int32} {ml : Nat → Nat → Int64} {d : Nat} {Q : Option Value → xM → Prop} {x3 : Int32} {x1 y : Int64} {r4 : Nat} {n_r4 : Nat} (hS_r4 : isStrip L r4 n_r4) : X 140 160 [.ref 2, .long x1, xmk, .int x3, .ref r4, xmk] [.long y, .ref 17] (SH L, mi, ml, MR) (d + 1) Q =
    Xm 85 [.ref 17, .long y] (SH L, mi, ml, MR) d (fun v μ' => X 140 163 [.ref 2, .long x1, xmk, .int x3, .ref r4, xmk] (v.toList ++ []) μ' (d + 1) Q) := by
  refine (R_virt (i := 325) (f := 85) (kd := 0) (na := 1) (ml := 8) (ci := 7) (n := 1) (b := 17) (As := [.long y]) (rest := []) (by decide +kernel) (by decide +kernel) (by decide) (by decide +kernel) rfl (by decide +kernel) rfl rfl (by decide +kernel) (Nat.le_of_ble_eq_true rfl)).trans ?_
  rfl
theorem s140_163v2 {L : Nat} {mi : Nat → Nat → Int32} {ml : Nat → Nat → Int64} {d : Nat} {Q : Option Value → xM → Prop} {x3 : Int32} {x1 y : Int64} : X 140 163 [.ref 2, .long x1, xmk, .int x3, .null, xmk] [.long y] (SH L, mi, ml, MR) d Q =
    Q (some (.long y)) (SH L, mi, ml, MR) := by
  exact R_lreturn (by decide +kernel) (by decide +kernel)
theorem s140_118v4 {L : Nat} {mi : Nat → Nat → Int32} {ml : Nat → Nat → Int64} {d : Nat} {Q : Option Value → xM → Prop} {x3 x5 : Int32} {x1 : Int64} {r4 ry : Nat} {n_ry : Nat} (hS_r4 : (SH L)[r4]? = some (4, 7)) (hS_ry : isStrip L ry n_ry) : X 140 118 [.ref 2, .long x1, xmk, .int x3, .ref r4, .int x5] [.ref ry] (SH L, mi, ml, MR) (d + 1) Q =
    Xm 88 [.ref ry] (SH L, mi, ml, MR) d (fun v μ' => X 140 139 [.ref 2, .long x1, xmk, .int x3, .ref ry, .int x5] (v.toList ++ [.long (31 * x1)]) μ' (d + 1) Q) := by
  refine (R_pure0 (ins := .astore 4) (len := 2) (loc' := [.ref 2, .long x1, xmk, .int x3, .ref ry, .int x5]) (st' := []) (by decide +kernel) (fun _ => rfl)).trans ?_
  refine (R_pure0 (ins := .aload 4) (len := 2) (loc' := [.ref 2, .long x1, xmk, .int x3, .ref ry, .int x5]) (st' := [.ref ry]) (by decide +kernel) (fun _ => rfl)).trans ?_
  refine (R_ifnonnull_r (off := 7) (t := 129) (by decide +kernel) (by decide +kernel)).trans ?_
  refine (R_ldc2 (i := 320) (v := 31) (by decide +kernel) (by decide +kernel)).trans ?_
  refine (R_pure0 (ins := .lload_n 1) (len := 1) (loc' := [.ref 2, .long x1, xmk, .int x3, .ref ry, .int x5]) (st' := [.long x1, .long 31]) (by decide +kernel) (fun _ => rfl)).trans ?_
  refine (R_pure0 (ins := .lmul) (len := 1) (loc' := [.ref 2, .long x1, xmk, .int x3, .ref ry, .int x5]) (st' := [.long (31 * x1)]) (by decide +kernel) (fun _ => rfl)).trans ?_
  refine (R_pure0 (ins := .aload 4) (len := 2) (loc' := [.ref 2, .long x1, xmk, .int x3, .ref ry, .int x5]) (st' := [.ref ry, .long (31 * x1)]) (by decide +kernel) (fun _ => rfl)).trans ?_
  refine (R_virt (i := 120) (f := 88) (kd := 0) (na := 0) (ml := 1) (ci := 8) (n := 2) (b := ry) (As := []) (rest := [.long (31 * x1)]) (by decide +kernel) (by decide +kernel) (by decide) (by decide +kernel) rfl (by decide +kernel) hS_ry.1 rfl (by decide +kernel) (Nat.le_of_ble_eq_true rfl)).trans ?_
  rfl
theorem s140_118nv4 {L : Nat} {mi : Nat → Nat → Int32} {ml : Nat → Nat → Int64} {d : Nat} {Q : Option Value → xM → Prop} {x3 x5 : Int32} {x1 : Int64} {r4 : Nat} (hS_r4 : (SH L)[r4]? = some (4, 7)) : X 140 118 [.ref 2, .long x1, xmk, .int x3, .ref r4, .int x5] [.null] (SH L, mi, ml, MR) d Q =
    X 140 105 [.ref 2, .long x1, xmk, .int (x3 + 1), .null, .int x5] [] (SH L, mi, ml, MR) d Q := by
  refine (R_pure0 (ins := .astore 4) (len := 2) (loc' := [.ref 2, .long x1, xmk, .int x3, .null, .int x5]) (st' := []) (by decide +kernel) (fun _ => rfl)).trans ?_
  refine (R_pure0 (ins := .aload 4) (len := 2) (loc' := [.ref 2, .long x1, xmk, .int x3, .null, .int x5]) (st' := [.null]) (by decide +kernel) (fun _ => rfl)).trans ?_
  refine (R_ifnonnull_n (off := 7) (by decide +kernel)).trans ?_
  refine (R_pure0 (ins := .lload_n 1) (len := 1) (loc' := [.ref 2, .long x1, xmk, .int x3, .null, .int x5]) (st' := [.long x1]) (by decide +kernel) (fun _ => rfl)).trans ?_
  refine (R_goto (off := 15) (t := 141) (by decide +kernel) (by decide +kernel)).trans ?_
  refine (R_pure0 (ins := .lstore_n 1) (len := 1) (loc' := [.ref 2, .long x1, xmk, .int x3, .null, .int x5]) (st' := []) (by decide +kernel) (fun _ => rfl)).trans ?_
  refine (R_iinc (k := 3) (n := 1) (x := x3) (v := (x3 + 1)) (loc' := [.ref 2, .long x1, xmk, .int (x3 + 1), .null, .int x5]) (by decide +kernel) rfl rfl rfl).trans ?_
  refine (R_goto (off := (-40)) (t := 105) (by decide +kernel) (by decide +kernel)).trans ?_
  rfl
theorem s140_160v4 {L : Nat} {mi : Nat → Nat → Int32} {ml : Nat → Nat → Int64} {d : Nat} {Q : Option Value → xM → Prop} {x3 x5 : Int32} {x1 y : Int64} {r4 : Nat} (hS_r4 : (SH L)[r4]? = some (4, 7)) : X 140 160 [.ref 2, .long x1, xmk, .int x3, .ref r4, .int x5] [.long y, .ref 17] (SH L, mi, ml, MR) (d + 1) Q =
    Xm 85 [.ref 17, .long y] (SH L, mi, ml, MR) d (fun v μ' => X 140 163 [.ref 2, .long x1, xmk, .int x3, .ref r4, .int x5] (v.toList ++ []) μ' (d + 1) Q) := by
  refine (R_virt (i := 325) (f := 85) (kd := 0) (na := 1) (ml := 8) (ci := 7) (n := 1) (b := 17) (As := [.long y]) (rest := []) (by decide +kernel) (by decide +kernel) (by decide) (by decide +kernel) rfl (by decide +kernel) rfl rfl (by decide +kernel) (Nat.le_of_ble_eq_true rfl)).trans ?_
  rfl
theorem s140_118v5 {L : Nat} {mi : Nat → Nat → Int32} {ml : Nat → Nat → Int64} {d : Nat} {Q : Option Value → xM → Prop} {x3 x5 : Int32} {x1 : Int64} {ry : Nat} {n_ry : Nat} (hS_ry : isStrip L ry n_ry) : X 140 118 [.ref 2, .long x1, xmk, .int x3, .null, .int x5] [.ref ry] (SH L, mi, ml, MR) (d + 1) Q =
    Xm 88 [.ref ry] (SH L, mi, ml, MR) d (fun v μ' => X 140 139 [.ref 2, .long x1, xmk, .int x3, .ref ry, .int x5] (v.toList ++ [.long (31 * x1)]) μ' (d + 1) Q) := by
  refine (R_pure0 (ins := .astore 4) (len := 2) (loc' := [.ref 2, .long x1, xmk, .int x3, .ref ry, .int x5]) (st' := []) (by decide +kernel) (fun _ => rfl)).trans ?_
  refine (R_pure0 (ins := .aload 4) (len := 2) (loc' := [.ref 2, .long x1, xmk, .int x3, .ref ry, .int x5]) (st' := [.ref ry]) (by decide +kernel) (fun _ => rfl)).trans ?_
  refine (R_ifnonnull_r (off := 7) (t := 129) (by decide +kernel) (by decide +kernel)).trans ?_
  refine (R_ldc2 (i := 320) (v := 31) (by decide +kernel) (by decide +kernel)).trans ?_
  refine (R_pure0 (ins := .lload_n 1) (len := 1) (loc' := [.ref 2, .long x1, xmk, .int x3, .ref ry, .int x5]) (st' := [.long x1, .long 31]) (by decide +kernel) (fun _ => rfl)).trans ?_
  refine (R_pure0 (ins := .lmul) (len := 1) (loc' := [.ref 2, .long x1, xmk, .int x3, .ref ry, .int x5]) (st' := [.long (31 * x1)]) (by decide +kernel) (fun _ => rfl)).trans ?_
  refine (R_pure0 (ins := .aload 4) (len := 2) (loc' := [.ref 2, .long x1, xmk, .int x3, .ref ry, .int x5]) (st' := [.ref ry, .long (31 * x1)]) (by decide +kernel) (fun _ => rfl)).trans ?_
  refine (R_virt (i := 120) (f := 88) (kd := 0) (na := 0) (ml := 1) (ci := 8) (n := 2) (b := ry) (As := []) (rest := [.long (31 * x1)]) (by decide +kernel) (by decide +kernel) (by decide) (by decide +kernel) rfl (by decide +kernel) hS_ry.1 rfl (by decide +kernel) (Nat.le_of_ble_eq_true rfl)).trans ?_
  rfl
theorem s140_118nv5 {L : Nat} {mi : Nat → Nat → Int32} {ml : Nat → Nat → Int64} {d : Nat} {Q : Option Value → xM → Prop} {x3 x5 : Int32} {x1 : Int64} : X 140 118 [.ref 2, .long x1, xmk, .int x3, .null, .int x5] [.null] (SH L, mi, ml, MR) d Q =
    X 140 105 [.ref 2, .long x1, xmk, .int (x3 + 1), .null, .int x5] [] (SH L, mi, ml, MR) d Q := by
  refine (R_pure0 (ins := .astore 4) (len := 2) (loc' := [.ref 2, .long x1, xmk, .int x3, .null, .int x5]) (st' := []) (by decide +kernel) (fun _ => rfl)).trans ?_
  refine (R_pure0 (ins := .aload 4) (len := 2) (loc' := [.ref 2, .long x1, xmk, .int x3, .null, .int x5]) (st' := [.null]) (by decide +kernel) (fun _ => rfl)).trans ?_
  refine (R_ifnonnull_n (off := 7) (by decide +kernel)).trans ?_
  refine (R_pure0 (ins := .lload_n 1) (len := 1) (loc' := [.ref 2, .long x1, xmk, .int x3, .null, .int x5]) (st' := [.long x1]) (by decide +kernel) (fun _ => rfl)).trans ?_
  refine (R_goto (off := 15) (t := 141) (by decide +kernel) (by decide +kernel)).trans ?_
  refine (R_pure0 (ins := .lstore_n 1) (len := 1) (loc' := [.ref 2, .long x1, xmk, .int x3, .null, .int x5]) (st' := []) (by decide +kernel) (fun _ => rfl)).trans ?_
  refine (R_iinc (k := 3) (n := 1) (x := x3) (v := (x3 + 1)) (loc' := [.ref 2, .long x1, xmk, .int (x3 + 1), .null, .int x5]) (by decide +kernel) rfl rfl rfl).trans ?_
  refine (R_goto (off := (-40)) (t := 105) (by decide +kernel) (by decide +kernel)).trans ?_
  rfl
theorem s140_160v5 {L : Nat} {mi : Nat → Nat → Int32} {ml : Nat → Nat → Int64} {d : Nat} {Q : Option Value → xM → Prop} {x3 x5 : Int32} {x1 y : Int64} : X 140 160 [.ref 2, .long x1, xmk, .int x3, .null, .int x5] [.long y, .ref 17] (SH L, mi, ml, MR) (d + 1) Q =
    Xm 85 [.ref 17, .long y] (SH L, mi, ml, MR) d (fun v μ' => X 140 163 [.ref 2, .long x1, xmk, .int x3, .null, .int x5] (v.toList ++ []) μ' (d + 1) Q) := by
  refine (R_virt (i := 325) (f := 85) (kd := 0) (na := 1) (ml := 8) (ci := 7) (n := 1) (b := 17) (As := [.long y]) (rest := []) (by decide +kernel) (by decide +kernel) (by decide) (by decide +kernel) rfl (by decide +kernel) rfl rfl (by decide +kernel) (Nat.le_of_ble_eq_true rfl)).trans ?_
  rfl
theorem s140_163v3 {L : Nat} {mi : Nat → Nat → Int32} {ml : Nat → Nat → Int64} {d : Nat} {Q : Option Value → xM → Prop} {x3 : Int32} {x1 y : Int64} {r4 : Nat} {n_r4 : Nat} (hS_r4 : isStrip L r4 n_r4) : X 140 163 [.ref 2, .long x1, xmk, .int x3, .ref r4, xmk] [.long y] (SH L, mi, ml, MR) d Q =
    Q (some (.long y)) (SH L, mi, ml, MR) := by
  exact R_lreturn (by decide +kernel) (by decide +kernel)
theorem s140_139v2 {L : Nat} {mi : Nat → Nat → Int32} {ml : Nat → Nat → Int64} {d : Nat} {Q : Option Value → xM → Prop} {x3 x5 y : Int32} {x1 z0 : Int64} {r4 : Nat} {n_r4 : Nat} (hS_r4 : isStrip L r4 n_r4) : X 140 139 [.ref 2, .long x1, xmk, .int x3, .ref r4, .int x5] [.int y, .long z0] (SH L, mi, ml, MR) d Q =
    X 140 105 [.ref 2, .long (z0 + y.toInt64), xmk, .int (x3 + 1), .ref r4, .int x5] [] (SH L, mi, ml, MR) d Q := by
  refine (R_pure0 (ins := .i2l) (len := 1) (loc' := [.ref 2, .long x1, xmk, .int x3, .ref r4, .int x5]) (st' := [.long y.toInt64, .long z0]) (by decide +kernel) (fun _ => rfl)).trans ?_
  refine (R_pure0 (ins := .ladd) (len := 1) (loc' := [.ref 2, .long x1, xmk, .int x3, .ref r4, .int x5]) (st' := [.long (z0 + y.toInt64)]) (by decide +kernel) (fun _ => rfl)).trans ?_
  refine (R_pure0 (ins := .lstore_n 1) (len := 1) (loc' := [.ref 2, .long (z0 + y.toInt64), xmk, .int x3, .ref r4, .int x5]) (st' := []) (by decide +kernel) (fun _ => rfl)).trans ?_
  refine (R_iinc (k := 3) (n := 1) (x := x3) (v := (x3 + 1)) (loc' := [.ref 2, .long (z0 + y.toInt64), xmk, .int (x3 + 1), .ref r4, .int x5]) (by decide +kernel) rfl rfl rfl).trans ?_
  refine (R_goto (off := (-40)) (t := 105) (by decide +kernel) (by decide +kernel)).trans ?_
  rfl
theorem s140_163v4 {L : Nat} {mi : Nat → Nat → Int32} {ml : Nat → Nat → Int64} {d : Nat} {Q : Option Value → xM → Prop} {x3 x5 : Int32} {x1 y : Int64} {r4 : Nat} (hS_r4 : (SH L)[r4]? = some (4, 7)) : X 140 163 [.ref 2, .long x1, xmk, .int x3, .ref r4, .int x5] [.long y] (SH L, mi, ml, MR) d Q =
    Q (some (.long y)) (SH L, mi, ml, MR) := by
  exact R_lreturn (by decide +kernel) (by decide +kernel)
theorem s140_163v5 {L : Nat} {mi : Nat → Nat → Int32} {ml : Nat → Nat → Int64} {d : Nat} {Q : Option Value → xM → Prop} {x3 x5 : Int32} {x1 y : Int64} : X 140 163 [.ref 2, .long x1, xmk, .int x3, .null, .int x5] [.long y] (SH L, mi, ml, MR) d Q =
    Q (some (.long y)) (SH L, mi, ml, MR) := by
  exact R_lreturn (by decide +kernel) (by decide +kernel)
theorem s141 {L : Nat} {mi : Nat → Nat → Int32} {ml : Nat → Nat → Int64} {d : Nat} {Q : Option Value → xM → Prop} {x1 : Int32} (h1 : ¬ (x1 < 0) → (x1 < 6) → xin x1 6 = true) (h2 : ¬ (x1 < 0) → (x1 < 6) → xin x1 6 = true) : Xm 141 [.ref 2, .int x1] (SH L, mi, ml, MR) d Q =
    if (x1 < 0) then (Q (some (.int (-3))) (SH L, (xw mi 2 10 x1), ml, MR)) else (if (x1 < 6) then (Q (some (.int (-3))) (SH L, (xw (xw mi 2 10 x1) 67 x1.toNatClampNeg (((xw mi 2 10 x1) 67 x1.toNatClampNeg) + 1)), ml, MR)) else (Q (some (.int (-3))) (SH L, (xw mi 2 10 x1), ml, MR))) := by
  rw [Xm_ent (n := 2) (loc := [.ref 2, .int x1]) (by decide +kernel) rfl]
  refine (R_pure0 (ins := .aload_n 0) (len := 1) (loc' := [.ref 2, .int x1]) (st' := [.ref 2]) (by decide +kernel) (fun _ => rfl)).trans ?_
  refine (R_pure0 (ins := .iload_n 1) (len := 1) (loc' := [.ref 2, .int x1]) (st' := [.int x1, .ref 2]) (by decide +kernel) (fun _ => rfl)).trans ?_
  refine (R_pi (i := 74) (ci := 9) (k := 10) (n := 12) (by decide +kernel) (by decide +kernel) (by decide) rfl).trans ?_
  refine (R_pure0 (ins := .iload_n 1) (len := 1) (loc' := [.ref 2, .int x1]) (st' := [.int x1]) (by decide +kernel) (fun _ => rfl)).trans ?_
  refine (R_if_lt (off := 22) (t := 28) (by decide +kernel) (by decide +kernel)).trans (ite_congr rfl (fun c0 => ?_) (fun c0 => ?_))
  · refine (R_bipush (n := (-3)) (v := (-3)) (by decide +kernel) (by decide +kernel)).trans ?_
    exact R_ireturn (by decide +kernel) (by decide +kernel)
  · refine (R_pure0 (ins := .iload_n 1) (len := 1) (loc' := [.ref 2, .int x1]) (st' := [.int x1]) (by decide +kernel) (fun _ => rfl)).trans ?_
    refine (R_pure0 (ins := .aload_n 0) (len := 1) (loc' := [.ref 2, .int x1]) (st' := [.ref 2, .int x1]) (by decide +kernel) (fun _ => rfl)).trans ?_
    refine (R_gr (i := 70) (ci := 9) (k := 9) (n := 12) (b := 67) (by decide +kernel) (by decide +kernel) (by decide) rfl (SH_ref (by decide +kernel))).trans ?_
    refine (R_arraylength (kd := 100) (n := 6) (by decide +kernel) rfl (by decide)).trans ?_
    show X 141 15 [.ref 2, .int x1] [.int 6, .int x1] (SH L, (xw mi 2 10 x1), ml, MR) _ _ = _
    refine (R_icmp_ge (off := 13) (t := 28) (by decide +kernel) (by decide +kernel)).trans (ite_congr rfl (fun c1 => ?_) (fun c1 => ?_))
    · refine (R_pure0 (ins := .aload_n 0) (len := 1) (loc' := [.ref 2, .int x1]) (st' := [.ref 2]) (by decide +kernel) (fun _ => rfl)).trans ?_
      refine (R_gr (i := 70) (ci := 9) (k := 9) (n := 12) (b := 67) (by decide +kernel) (by decide +kernel) (by decide) rfl (SH_ref (by decide +kernel))).trans ?_
      refine (R_pure0 (ins := .iload_n 1) (len := 1) (loc' := [.ref 2, .int x1]) (st' := [.int x1, .ref 67]) (by decide +kernel) (fun _ => rfl)).trans ?_
      refine (R_pure0 (ins := .dup2) (len := 1) (loc' := [.ref 2, .int x1]) (st' := [.int x1, .ref 67, .int x1, .ref 67]) (by decide +kernel) (fun _ => rfl)).trans ?_
      refine (R_iaload (kd := 100) (n := 6) (by decide +kernel) rfl (by decide) (h1 c0 c1)).trans ?_
      refine (R_iconst (n := 1) (v := 1) (by decide +kernel) (by decide +kernel)).trans ?_
      refine (R_pure0 (ins := .iadd) (len := 1) (loc' := [.ref 2, .int x1]) (st' := [.int (((xw mi 2 10 x1) 67 x1.toNatClampNeg) + 1), .int x1, .ref 67]) (by decide +kernel) (fun _ => rfl)).trans ?_
      refine (R_iastore (n := 6) (by decide +kernel) rfl (h2 c0 c1)).trans ?_
      refine (R_bipush (n := (-3)) (v := (-3)) (by decide +kernel) (by decide +kernel)).trans ?_
      exact R_ireturn (by decide +kernel) (by decide +kernel)
    · refine (R_bipush (n := (-3)) (v := (-3)) (by decide +kernel) (by decide +kernel)).trans ?_
      exact R_ireturn (by decide +kernel) (by decide +kernel)
theorem s142 {L : Nat} {mi : Nat → Nat → Int32} {ml : Nat → Nat → Int64} {d : Nat} {Q : Option Value → xM → Prop} {x0 : Int32} : Xm 142 [.int x0] (SH L, mi, ml, MR) d Q =
    if (x0 < 0) then (Q (some (.int 0)) (SH L, mi, ml, MR)) else (if (x0 < 9) then (Q (some (.int 1)) (SH L, mi, ml, MR)) else (Q (some (.int 0)) (SH L, mi, ml, MR))) := by
  rw [Xm_ent (n := 1) (loc := [.int x0]) (by decide +kernel) rfl]
  refine (R_pure0 (ins := .iload_n 0) (len := 1) (loc' := [.int x0]) (st' := [.int x0]) (by decide +kernel) (fun _ => rfl)).trans ?_
  refine (R_if_lt (off := 13) (t := 14) (by decide +kernel) (by decide +kernel)).trans (ite_congr rfl (fun c0 => ?_) (fun c0 => ?_))
  · refine (R_iconst (n := 0) (v := 0) (by decide +kernel) (by decide +kernel)).trans ?_
    exact R_zreturn (by decide +kernel) (by decide +kernel) (by decide)
  · refine (R_pure0 (ins := .iload_n 0) (len := 1) (loc' := [.int x0]) (st' := [.int x0]) (by decide +kernel) (fun _ => rfl)).trans ?_
    refine (R_bipush (n := 9) (v := 9) (by decide +kernel) (by decide +kernel)).trans ?_
    refine (R_icmp_ge (off := 7) (t := 14) (by decide +kernel) (by decide +kernel)).trans (ite_congr rfl (fun c1 => ?_) (fun c1 => ?_))
    · refine (R_iconst (n := 1) (v := 1) (by decide +kernel) (by decide +kernel)).trans ?_
      refine (R_goto (off := 4) (t := 15) (by decide +kernel) (by decide +kernel)).trans ?_
      exact R_zreturn (by decide +kernel) (by decide +kernel) (by decide)
    · refine (R_iconst (n := 0) (v := 0) (by decide +kernel) (by decide +kernel)).trans ?_
      exact R_zreturn (by decide +kernel) (by decide +kernel) (by decide)
theorem s143 {L : Nat} {mi : Nat → Nat → Int32} {ml : Nat → Nat → Int64} {d : Nat} {Q : Option Value → xM → Prop} {x0 : Int32} : Xm 143 [.int x0] (SH L, mi, ml, MR) d Q =
    if (x0 < 0) then (Q (some (.int 0)) (SH L, mi, ml, MR)) else (if (x0 < 10) then (Q (some (.int 1)) (SH L, mi, ml, MR)) else (Q (some (.int 0)) (SH L, mi, ml, MR))) := by
  rw [Xm_ent (n := 1) (loc := [.int x0]) (by decide +kernel) rfl]
  refine (R_pure0 (ins := .iload_n 0) (len := 1) (loc' := [.int x0]) (st' := [.int x0]) (by decide +kernel) (fun _ => rfl)).trans ?_
  refine (R_if_lt (off := 13) (t := 14) (by decide +kernel) (by decide +kernel)).trans (ite_congr rfl (fun c0 => ?_) (fun c0 => ?_))
  · refine (R_iconst (n := 0) (v := 0) (by decide +kernel) (by decide +kernel)).trans ?_
    exact R_zreturn (by decide +kernel) (by decide +kernel) (by decide)
  · refine (R_pure0 (ins := .iload_n 0) (len := 1) (loc' := [.int x0]) (st' := [.int x0]) (by decide +kernel) (fun _ => rfl)).trans ?_
    refine (R_bipush (n := 10) (v := 10) (by decide +kernel) (by decide +kernel)).trans ?_
    refine (R_icmp_ge (off := 7) (t := 14) (by decide +kernel) (by decide +kernel)).trans (ite_congr rfl (fun c1 => ?_) (fun c1 => ?_))
    · refine (R_iconst (n := 1) (v := 1) (by decide +kernel) (by decide +kernel)).trans ?_
      refine (R_goto (off := 4) (t := 15) (by decide +kernel) (by decide +kernel)).trans ?_
      exact R_zreturn (by decide +kernel) (by decide +kernel) (by decide)
    · refine (R_iconst (n := 0) (v := 0) (by decide +kernel) (by decide +kernel)).trans ?_
      exact R_zreturn (by decide +kernel) (by decide +kernel) (by decide)
theorem s144 {L : Nat} {mi : Nat → Nat → Int32} {ml : Nat → Nat → Int64} {d : Nat} {Q : Option Value → xM → Prop} {x2 x3 x4 : Int32} {r1 : Nat} {n_r1 : Nat} (hS_r1 : isStrip L r1 n_r1) : Xm 144 [.ref 2, .ref r1, .int x2, .int x3, .int x4] (SH L, mi, ml, MR) (d + 1) Q =
    if (x3 < x2) then (Q (some (.int (-1))) (SH L, mi, ml, MR)) else (if (x2 < 0) then (Xm 141 [.ref 2, .int 5] (SH L, mi, ml, MR) d (fun v μ' => X 144 20 [.ref 2, .ref r1, .int x2, .int x3, .int x4] (v.toList ++ []) μ' (d + 1) Q)) else (Xm 92 [.ref r1, .int x2, .int x4] (SH L, mi, ml, MR) d (fun v μ' => X 144 28 [.ref 2, .ref r1, .int x2, .int x3, .int x4] (v.toList ++ []) μ' (d + 1) Q))) := by
  rw [Xm_ent (n := 5) (loc := [.ref 2, .ref r1, .int x2, .int x3, .int x4]) (by decide +kernel) rfl]
  refine (R_pure0 (ins := .aload_n 1) (len := 1) (loc' := [.ref 2, .ref r1, .int x2, .int x3, .int x4]) (st' := [.ref r1]) (by decide +kernel) (fun _ => rfl)).trans ?_
  refine (R_ifnull_r (off := 8) (by decide +kernel)).trans ?_
  refine (R_pure0 (ins := .iload_n 2) (len := 1) (loc' := [.ref 2, .ref r1, .int x2, .int x3, .int x4]) (st' := [.int x2]) (by decide +kernel) (fun _ => rfl)).trans ?_
  refine (R_pure0 (ins := .iload_n 3) (len := 1) (loc' := [.ref 2, .ref r1, .int x2, .int x3, .int x4]) (st' := [.int x3, .int x2]) (by decide +kernel) (fun _ => rfl)).trans ?_
  refine (R_icmp_le (off := 5) (t := 11) (by decide +kernel) (by decide +kernel)).trans (ite_congr rfl (fun c0 => ?_) (fun c0 => ?_))
  · refine (R_iconst (n := (-1)) (v := (-1)) (by decide +kernel) (by decide +kernel)).trans ?_
    exact R_ireturn (by decide +kernel) (by decide +kernel)
  · refine (R_pure0 (ins := .iload_n 2) (len := 1) (loc' := [.ref 2, .ref r1, .int x2, .int x3, .int x4]) (st' := [.int x2]) (by decide +kernel) (fun _ => rfl)).trans ?_
    refine (R_if_ge (off := 9) (t := 21) (by decide +kernel) (by decide +kernel)).trans (ite_congr rfl (fun c1 => ?_) (fun c1 => ?_))
    · refine (R_pure0 (ins := .aload_n 0) (len := 1) (loc' := [.ref 2, .ref r1, .int x2, .int x3, .int x4]) (st' := [.ref 2]) (by decide +kernel) (fun _ => rfl)).trans ?_
      refine (R_iconst (n := 5) (v := 5) (by decide +kernel) (by decide +kernel)).trans ?_
      refine (R_virt (i := 106) (f := 141) (kd := 0) (na := 1) (ml := 2) (ci := 9) (n := 12) (b := 2) (As := [.int 5]) (rest := []) (by decide +kernel) (by decide +kernel) (by decide) (by decide +kernel) rfl (by decide +kernel) rfl rfl (by decide +kernel) (Nat.le_of_ble_eq_true rfl)).trans ?_
      rfl
    · refine (R_pure0 (ins := .aload_n 1) (len := 1) (loc' := [.ref 2, .ref r1, .int x2, .int x3, .int x4]) (st' := [.ref r1]) (by decide +kernel) (fun _ => rfl)).trans ?_
      refine (R_pure0 (ins := .iload_n 2) (len := 1) (loc' := [.ref 2, .ref r1, .int x2, .int x3, .int x4]) (st' := [.int x2, .ref r1]) (by decide +kernel) (fun _ => rfl)).trans ?_
      refine (R_pure0 (ins := .iload 4) (len := 2) (loc' := [.ref 2, .ref r1, .int x2, .int x3, .int x4]) (st' := [.int x4, .int x2, .ref r1]) (by decide +kernel) (fun _ => rfl)).trans ?_
      refine (R_virt (i := 329) (f := 92) (kd := 0) (na := 2) (ml := 4) (ci := 8) (n := 2) (b := r1) (As := [.int x2, .int x4]) (rest := []) (by decide +kernel) (by decide +kernel) (by decide) (by decide +kernel) rfl (by decide +kernel) hS_r1.1 rfl (by decide +kernel) (Nat.le_of_ble_eq_true rfl)).trans ?_
      rfl
theorem s144n {L : Nat} {mi : Nat → Nat → Int32} {ml : Nat → Nat → Int64} {d : Nat} {Q : Option Value → xM → Prop} {x2 x3 x4 : Int32} : Xm 144 [.ref 2, .null, .int x2, .int x3, .int x4] (SH L, mi, ml, MR) d Q =
    Q (some (.int (-1))) (SH L, mi, ml, MR) := by
  rw [Xm_ent (n := 5) (loc := [.ref 2, .null, .int x2, .int x3, .int x4]) (by decide +kernel) rfl]
  refine (R_pure0 (ins := .aload_n 1) (len := 1) (loc' := [.ref 2, .null, .int x2, .int x3, .int x4]) (st' := [.null]) (by decide +kernel) (fun _ => rfl)).trans ?_
  refine (R_ifnull_n (off := 8) (t := 9) (by decide +kernel) (by decide +kernel)).trans ?_
  refine (R_iconst (n := (-1)) (v := (-1)) (by decide +kernel) (by decide +kernel)).trans ?_
  exact R_ireturn (by decide +kernel) (by decide +kernel)
theorem s144_20 {L : Nat} {mi : Nat → Nat → Int32} {ml : Nat → Nat → Int64} {d : Nat} {Q : Option Value → xM → Prop} {x2 x3 x4 y : Int32} {r1 : Nat} {n_r1 : Nat} (hS_r1 : isStrip L r1 n_r1) : X 144 20 [.ref 2, .ref r1, .int x2, .int x3, .int x4] [.int y] (SH L, mi, ml, MR) d Q =
    Q (some (.int y)) (SH L, mi, ml, MR) := by
  exact R_ireturn (by decide +kernel) (by decide +kernel)
theorem s144_28 {L : Nat} {mi : Nat → Nat → Int32} {ml : Nat → Nat → Int64} {d : Nat} {Q : Option Value → xM → Prop} {x2 x3 x4 : Int32} {r1 : Nat} {n_r1 : Nat} (hS_r1 : isStrip L r1 n_r1) : X 144 28 [.ref 2, .ref r1, .int x2, .int x3, .int x4] [] (SH L, mi, ml, MR) d Q =
    Q (some (.int x2)) (SH L, mi, ml, MR) := by
  refine (R_pure0 (ins := .iload_n 2) (len := 1) (loc' := [.ref 2, .ref r1, .int x2, .int x3, .int x4]) (st' := [.int x2]) (by decide +kernel) (fun _ => rfl)).trans ?_
  exact R_ireturn (by decide +kernel) (by decide +kernel)
theorem s145 {L : Nat} {mi : Nat → Nat → Int32} {ml : Nat → Nat → Int64} {d : Nat} {Q : Option Value → xM → Prop} {x2 : Int32} {r1 : Nat} {n_r1 : Nat} (hS_r1 : isStrip L r1 n_r1) : Xm 145 [.ref 2, .ref r1, .int x2] (SH L, mi, ml, MR) (d + 1) Q =
    Xm 87 [.ref r1] (SH L, mi, ml, MR) d (fun v μ' => X 145 8 [.ref 2, .ref r1, .int x2] (v.toList ++ []) μ' (d + 1) Q) := by
  rw [Xm_ent (n := 3) (loc := [.ref 2, .ref r1, .int x2]) (by decide +kernel) rfl]
  refine (R_pure0 (ins := .aload_n 1) (len := 1) (loc' := [.ref 2, .ref r1, .int x2]) (st' := [.ref r1]) (by decide +kernel) (fun _ => rfl)).trans ?_
  refine (R_ifnull_r (off := 10) (by decide +kernel)).trans ?_
  refine (R_pure0 (ins := .aload_n 1) (len := 1) (loc' := [.ref 2, .ref r1, .int x2]) (st' := [.ref r1]) (by decide +kernel) (fun _ => rfl)).trans ?_
  refine (R_virt (i := 102) (f := 87) (kd := 0) (na := 0) (ml := 1) (ci := 8) (n := 2) (b := r1) (As := []) (rest := []) (by decide +kernel) (by decide +kernel) (by decide) (by decide +kernel) rfl (by decide +kernel) hS_r1.1 rfl (by decide +kernel) (Nat.le_of_ble_eq_true rfl)).trans ?_
  rfl
theorem s145n {L : Nat} {mi : Nat → Nat → Int32} {ml : Nat → Nat → Int64} {d : Nat} {Q : Option Value → xM → Prop} {x2 : Int32} : Xm 145 [.ref 2, .null, .int x2] (SH L, mi, ml, MR) (d + 1) Q =
    Xm 141 [.ref 2, .int 1] (SH L, mi, ml, MR) d (fun v μ' => X 145 16 [.ref 2, .null, .int x2] (v.toList ++ []) μ' (d + 1) Q) := by
  rw [Xm_ent (n := 3) (loc := [.ref 2, .null, .int x2]) (by decide +kernel) rfl]
  refine (R_pure0 (ins := .aload_n 1) (len := 1) (loc' := [.ref 2, .null, .int x2]) (st' := [.null]) (by decide +kernel) (fun _ => rfl)).trans ?_
  refine (R_ifnull_n (off := 10) (t := 11) (by decide +kernel) (by decide +kernel)).trans ?_
  refine (R_pure0 (ins := .aload_n 0) (len := 1) (loc' := [.ref 2, .null, .int x2]) (st' := [.ref 2]) (by decide +kernel) (fun _ => rfl)).trans ?_
  refine (R_iconst (n := 1) (v := 1) (by decide +kernel) (by decide +kernel)).trans ?_
  refine (R_virt (i := 106) (f := 141) (kd := 0) (na := 1) (ml := 2) (ci := 9) (n := 12) (b := 2) (As := [.int 1]) (rest := []) (by decide +kernel) (by decide +kernel) (by decide) (by decide +kernel) rfl (by decide +kernel) rfl rfl (by decide +kernel) (Nat.le_of_ble_eq_true rfl)).trans ?_
  rfl
theorem s145_8 {L : Nat} {mi : Nat → Nat → Int32} {ml : Nat → Nat → Int64} {d : Nat} {Q : Option Value → xM → Prop} {x2 y : Int32} {r1 : Nat} {n_r1 : Nat} (hS_r1 : isStrip L r1 n_r1) : X 145 8 [.ref 2, .ref r1, .int x2] [.int y] (SH L, mi, ml, MR) (d + 1) Q =
    if (y = 0) then (Xm 89 [.ref r1, .int x2, .int 1] (SH L, mi, ml, MR) d (fun v μ' => X 145 23 [.ref 2, .ref r1, .int x2] (v.toList ++ []) μ' (d + 1) Q)) else (Xm 141 [.ref 2, .int 1] (SH L, mi, ml, MR) d (fun v μ' => X 145 16 [.ref 2, .ref r1, .int x2] (v.toList ++ []) μ' (d + 1) Q)) := by
  refine (R_if_eq (off := 9) (t := 17) (by decide +kernel) (by decide +kernel)).trans (ite_congr rfl (fun c0 => ?_) (fun c0 => ?_))
  · refine (R_pure0 (ins := .aload_n 1) (len := 1) (loc' := [.ref 2, .ref r1, .int x2]) (st' := [.ref r1]) (by decide +kernel) (fun _ => rfl)).trans ?_
    refine (R_pure0 (ins := .iload_n 2) (len := 1) (loc' := [.ref 2, .ref r1, .int x2]) (st' := [.int x2, .ref r1]) (by decide +kernel) (fun _ => rfl)).trans ?_
    refine (R_iconst (n := 1) (v := 1) (by decide +kernel) (by decide +kernel)).trans ?_
    refine (R_virt (i := 112) (f := 89) (kd := 0) (na := 2) (ml := 3) (ci := 8) (n := 2) (b := r1) (As := [.int x2, .int 1]) (rest := []) (by decide +kernel) (by decide +kernel) (by decide) (by decide +kernel) rfl (by decide +kernel) hS_r1.1 rfl (by decide +kernel) (Nat.le_of_ble_eq_true rfl)).trans ?_
    rfl
  · refine (R_pure0 (ins := .aload_n 0) (len := 1) (loc' := [.ref 2, .ref r1, .int x2]) (st' := [.ref 2]) (by decide +kernel) (fun _ => rfl)).trans ?_
    refine (R_iconst (n := 1) (v := 1) (by decide +kernel) (by decide +kernel)).trans ?_
    refine (R_virt (i := 106) (f := 141) (kd := 0) (na := 1) (ml := 2) (ci := 9) (n := 12) (b := 2) (As := [.int 1]) (rest := []) (by decide +kernel) (by decide +kernel) (by decide) (by decide +kernel) rfl (by decide +kernel) rfl rfl (by decide +kernel) (Nat.le_of_ble_eq_true rfl)).trans ?_
    rfl
theorem s145_16 {L : Nat} {mi : Nat → Nat → Int32} {ml : Nat → Nat → Int64} {d : Nat} {Q : Option Value → xM → Prop} {x2 y : Int32} : X 145 16 [.ref 2, .null, .int x2] [.int y] (SH L, mi, ml, MR) d Q =
    Q (some (.int y)) (SH L, mi, ml, MR) := by
  exact R_ireturn (by decide +kernel) (by decide +kernel)
theorem s145_23 {L : Nat} {mi : Nat → Nat → Int32} {ml : Nat → Nat → Int64} {d : Nat} {Q : Option Value → xM → Prop} {x2 y : Int32} {r1 : Nat} {n_r1 : Nat} (hS_r1 : isStrip L r1 n_r1) : X 145 23 [.ref 2, .ref r1, .int x2] [.int y] (SH L, mi, ml, MR) (d + 1) Q =
    if (y = 0) then (Xm 141 [.ref 2, .int 2] (SH L, mi, ml, MR) d (fun v μ' => X 145 35 [.ref 2, .ref r1, .int x2] (v.toList ++ []) μ' (d + 1) Q)) else (Q (some (.int 0)) (SH L, mi, ml, MR)) := by
  refine (R_if_eq (off := 7) (t := 30) (by decide +kernel) (by decide +kernel)).trans (ite_congr rfl (fun c0 => ?_) (fun c0 => ?_))
  · refine (R_pure0 (ins := .aload_n 0) (len := 1) (loc' := [.ref 2, .ref r1, .int x2]) (st' := [.ref 2]) (by decide +kernel) (fun _ => rfl)).trans ?_
    refine (R_iconst (n := 2) (v := 2) (by decide +kernel) (by decide +kernel)).trans ?_
    refine (R_virt (i := 106) (f := 141) (kd := 0) (na := 1) (ml := 2) (ci := 9) (n := 12) (b := 2) (As := [.int 2]) (rest := []) (by decide +kernel) (by decide +kernel) (by decide) (by decide +kernel) rfl (by decide +kernel) rfl rfl (by decide +kernel) (Nat.le_of_ble_eq_true rfl)).trans ?_
    rfl
  · refine (R_iconst (n := 0) (v := 0) (by decide +kernel) (by decide +kernel)).trans ?_
    refine (R_goto (off := 8) (t := 35) (by decide +kernel) (by decide +kernel)).trans ?_
    exact R_ireturn (by decide +kernel) (by decide +kernel)
theorem s145_16v2 {L : Nat} {mi : Nat → Nat → Int32} {ml : Nat → Nat → Int64} {d : Nat} {Q : Option Value → xM → Prop} {x2 y : Int32} {r1 : Nat} {n_r1 : Nat} (hS_r1 : isStrip L r1 n_r1) : X 145 16 [.ref 2, .ref r1, .int x2] [.int y] (SH L, mi, ml, MR) d Q =
    Q (some (.int y)) (SH L, mi, ml, MR) := by
  exact R_ireturn (by decide +kernel) (by decide +kernel)
theorem s145_35 {L : Nat} {mi : Nat → Nat → Int32} {ml : Nat → Nat → Int64} {d : Nat} {Q : Option Value → xM → Prop} {x2 y : Int32} {r1 : Nat} {n_r1 : Nat} (hS_r1 : isStrip L r1 n_r1) : X 145 35 [.ref 2, .ref r1, .int x2] [.int y] (SH L, mi, ml, MR) d Q =
    Q (some (.int y)) (SH L, mi, ml, MR) := by
  exact R_ireturn (by decide +kernel) (by decide +kernel)
theorem s146 {L : Nat} {mi : Nat → Nat → Int32} {ml : Nat → Nat → Int64} {d : Nat} {Q : Option Value → xM → Prop} {r1 : Nat} {n_r1 : Nat} (hS_r1 : isStrip L r1 n_r1) : Xm 146 [.ref 2, .ref r1] (SH L, mi, ml, MR) (d + 1) Q =
    Xm 17 [.ref 38] (SH L, mi, ml, MR) d (fun v μ' => X 146 13 [.ref 2, .ref r1, xmk] (v.toList ++ []) μ' (d + 1) Q) := by
  rw [Xm_ent (n := 3) (loc := [.ref 2, .ref r1, xmk]) (by decide +kernel) rfl]
  refine (R_pure0 (ins := .aload_n 1) (len := 1) (loc' := [.ref 2, .ref r1, xmk]) (st' := [.ref r1]) (by decide +kernel) (fun _ => rfl)).trans ?_
  refine (R_ifnonnull_r (off := 5) (t := 6) (by decide +kernel) (by decide +kernel)).trans ?_
  refine (R_pure0 (ins := .aload_n 0) (len := 1) (loc' := [.ref 2, .ref r1, xmk]) (st' := [.ref 2]) (by decide +kernel) (fun _ => rfl)).trans ?_
  refine (R_gr (i := 34) (ci := 9) (k := 4) (n := 12) (b := 38) (by decide +kernel) (by decide +kernel) (by decide) rfl (SH_ref (by decide +kernel))).trans ?_
  refine (R_virt (i := 167) (f := 17) (kd := 0) (na := 0) (ml := 1) (ci := 2) (n := 5) (b := 38) (As := []) (rest := []) (by decide +kernel) (by decide +kernel) (by decide) (by decide +kernel) rfl (by decide +kernel) rfl rfl (by decide +kernel) (Nat.le_of_ble_eq_true rfl)).trans ?_
  rfl
theorem s146n {L : Nat} {mi : Nat → Nat → Int32} {ml : Nat → Nat → Int64} {d : Nat} {Q : Option Value → xM → Prop} : Xm 146 [.ref 2, .null] (SH L, mi, ml, MR) d Q =
    Q (some (.int (-1))) (SH L, mi, ml, MR) := by
  rw [Xm_ent (n := 3) (loc := [.ref 2, .null, xmk]) (by decide +kernel) rfl]
  refine (R_pure0 (ins := .aload_n 1) (len := 1) (loc' := [.ref 2, .null, xmk]) (st' := [.null]) (by decide +kernel) (fun _ => rfl)).trans ?_
  refine (R_ifnonnull_n (off := 5) (by decide +kernel)).trans ?_
  refine (R_iconst (n := (-1)) (v := (-1)) (by decide +kernel) (by decide +kernel)).trans ?_
  exact R_ireturn (by decide +kernel) (by decide +kernel)
theorem s146_13 {L : Nat} {mi : Nat → Nat → Int32} {ml : Nat → Nat → Int64} {d : Nat} {Q : Option Value → xM → Prop} {y : Int32} {r1 : Nat} {n_r1 : Nat} (hS_r1 : isStrip L r1 n_r1) : X 146 13 [.ref 2, .ref r1, xmk] [.int y] (SH L, mi, ml, MR) (d + 1) Q =
    if (y = 0) then (Xm 87 [.ref r1] (SH L, mi, ml, MR) d (fun v μ' => X 146 23 [.ref 2, .ref r1, xmk] (v.toList ++ []) μ' (d + 1) Q)) else (Q (some (.int (-4))) (SH L, mi, ml, MR)) := by
  refine (R_if_eq (off := 6) (t := 19) (by decide +kernel) (by decide +kernel)).trans (ite_congr rfl (fun c0 => ?_) (fun c0 => ?_))
  · refine (R_pure0 (ins := .aload_n 1) (len := 1) (loc' := [.ref 2, .ref r1, xmk]) (st' := [.ref r1]) (by decide +kernel) (fun _ => rfl)).trans ?_
    refine (R_virt (i := 102) (f := 87) (kd := 0) (na := 0) (ml := 1) (ci := 8) (n := 2) (b := r1) (As := []) (rest := []) (by decide +kernel) (by decide +kernel) (by decide) (by decide +kernel) rfl (by decide +kernel) hS_r1.1 rfl (by decide +kernel) (Nat.le_of_ble_eq_true rfl)).trans ?_
    rfl
  · refine (R_bipush (n := (-4)) (v := (-4)) (by decide +kernel) (by decide +kernel)).trans ?_
    exact R_ireturn (by decide +kernel) (by decide +kernel)
theorem s146_23 {L : Nat} {mi : Nat → Nat → Int32} {ml : Nat → Nat → Int64} {d : Nat} {Q : Option Value → xM → Prop} {y : Int32} {r1 : Nat} {n_r1 : Nat} (hS_r1 : isStrip L r1 n_r1) : X 146 23 [.ref 2, .ref r1, xmk] [.int y] (SH L, mi, ml, MR) (d + 1) Q =
    if (y = 0) then (Xm 88 [.ref r1] (SH L, mi, ml, MR) d (fun v μ' => X 146 36 [.ref 2, .ref r1, xmk] (v.toList ++ []) μ' (d + 1) Q)) else (Xm 141 [.ref 2, .int 1] (SH L, mi, ml, MR) d (fun v μ' => X 146 31 [.ref 2, .ref r1, xmk] (v.toList ++ []) μ' (d + 1) Q)) := by
  refine (R_if_eq (off := 9) (t := 32) (by decide +kernel) (by decide +kernel)).trans (ite_congr rfl (fun c0 => ?_) (fun c0 => ?_))
  · refine (R_pure0 (ins := .aload_n 1) (len := 1) (loc' := [.ref 2, .ref r1, xmk]) (st' := [.ref r1]) (by decide +kernel) (fun _ => rfl)).trans ?_
    refine (R_virt (i := 120) (f := 88) (kd := 0) (na := 0) (ml := 1) (ci := 8) (n := 2) (b := r1) (As := []) (rest := []) (by decide +kernel) (by decide +kernel) (by decide) (by decide +kernel) rfl (by decide +kernel) hS_r1.1 rfl (by decide +kernel) (Nat.le_of_ble_eq_true rfl)).trans ?_
    rfl
  · refine (R_pure0 (ins := .aload_n 0) (len := 1) (loc' := [.ref 2, .ref r1, xmk]) (st' := [.ref 2]) (by decide +kernel) (fun _ => rfl)).trans ?_
    refine (R_iconst (n := 1) (v := 1) (by decide +kernel) (by decide +kernel)).trans ?_
    refine (R_virt (i := 106) (f := 141) (kd := 0) (na := 1) (ml := 2) (ci := 9) (n := 12) (b := 2) (As := [.int 1]) (rest := []) (by decide +kernel) (by decide +kernel) (by decide) (by decide +kernel) rfl (by decide +kernel) rfl rfl (by decide +kernel) (Nat.le_of_ble_eq_true rfl)).trans ?_
    rfl
theorem s146_36 {L : Nat} {mi : Nat → Nat → Int32} {ml : Nat → Nat → Int64} {d : Nat} {Q : Option Value → xM → Prop} {y : Int32} {r1 : Nat} {n_r1 : Nat} (hS_r1 : isStrip L r1 n_r1) : X 146 36 [.ref 2, .ref r1, xmk] [.int y] (SH L, mi, ml, MR) (d + 1) Q =
    if ((5 : Int32) < y) then (Xm 141 [.ref 2, .int 5] (SH L, mi, ml, MR) d (fun v μ' => X 146 45 [.ref 2, .ref r1, xmk] (v.toList ++ []) μ' (d + 1) Q)) else (X 146 48 [.ref 2, .ref r1, .int 0] [] (SH L, mi, ml, MR) (d + 1) Q) := by
  refine (R_iconst (n := 5) (v := 5) (by decide +kernel) (by decide +kernel)).trans ?_
  refine (R_icmp_le (off := 9) (t := 46) (by decide +kernel) (by decide +kernel)).trans (ite_congr rfl (fun c0 => ?_) (fun c0 => ?_))
  · refine (R_pure0 (ins := .aload_n 0) (len := 1) (loc' := [.ref 2, .ref r1, xmk]) (st' := [.ref 2]) (by decide +kernel) (fun _ => rfl)).trans ?_
    refine (R_iconst (n := 5) (v := 5) (by decide +kernel) (by decide +kernel)).trans ?_
    refine (R_virt (i := 106) (f := 141) (kd := 0) (na := 1) (ml := 2) (ci := 9) (n := 12) (b := 2) (As := [.int 5]) (rest := []) (by decide +kernel) (by decide +kernel) (by decide) (by decide +kernel) rfl (by decide +kernel) rfl rfl (by decide +kernel) (Nat.le_of_ble_eq_true rfl)).trans ?_
    rfl
  · refine (R_iconst (n := 0) (v := 0) (by decide +kernel) (by decide +kernel)).trans ?_
    refine (R_pure0 (ins := .istore_n 2) (len := 1) (loc' := [.ref 2, .ref r1, .int 0]) (st' := []) (by decide +kernel) (fun _ => rfl)).trans ?_
    rfl
theorem s146_31 {L : Nat} {mi : Nat → Nat → Int32} {ml : Nat → Nat → Int64} {d : Nat} {Q : Option Value → xM → Prop} {y : Int32} {r1 : Nat} {n_r1 : Nat} (hS_r1 : isStrip L r1 n_r1) : X 146 31 [.ref 2, .ref r1, xmk] [.int y] (SH L, mi, ml, MR) d Q =
    Q (some (.int y)) (SH L, mi, ml, MR) := by
  exact R_ireturn (by decide +kernel) (by decide +kernel)
theorem s146_45 {L : Nat} {mi : Nat → Nat → Int32} {ml : Nat → Nat → Int64} {d : Nat} {Q : Option Value → xM → Prop} {y : Int32} {r1 : Nat} {n_r1 : Nat} (hS_r1 : isStrip L r1 n_r1) : X 146 45 [.ref 2, .ref r1, xmk] [.int y] (SH L, mi, ml, MR) d Q =
    Q (some (.int y)) (SH L, mi, ml, MR) := by
  exact R_ireturn (by decide +kernel) (by decide +kernel)
theorem s146_48 {L : Nat} {mi : Nat → Nat → Int32} {ml : Nat → Nat → Int64} {d : Nat} {Q : Option Value → xM → Prop} {x2 : Int32} {r1 : Nat} {n_r1 : Nat} (hS_r1 : isStrip L r1 n_r1) : X 146 48 [.ref 2, .ref r1, .int x2] [] (SH L, mi, ml, MR) (d + 1) Q =
    Xm 88 [.ref r1] (SH L, mi, ml, MR) d (fun v μ' => X 146 53 [.ref 2, .ref r1, .int x2] (v.toList ++ [.int x2]) μ' (d + 1) Q) := by
  refine (R_pure0 (ins := .iload_n 2) (len := 1) (loc' := [.ref 2, .ref r1, .int x2]) (st' := [.int x2]) (by decide +kernel) (fun _ => rfl)).trans ?_
  refine (R_pure0 (ins := .aload_n 1) (len := 1) (loc' := [.ref 2, .ref r1, .int x2]) (st' := [.ref r1, .int x2]) (by decide +kernel) (fun _ => rfl)).trans ?_
  refine (R_virt (i := 120) (f := 88) (kd := 0) (na := 0) (ml := 1) (ci := 8) (n := 2) (b := r1) (As := []) (rest := [.int x2]) (by decide +kernel) (by decide +kernel) (by decide) (by decide +kernel) rfl (by decide +kernel) hS_r1.1 rfl (by decide +kernel) (Nat.le_of_ble_eq_true rfl)).trans ?_
  rfl
theorem s146_53 {L : Nat} {mi : Nat → Nat → Int32} {ml : Nat → Nat → Int64} {d : Nat} {Q : Option Value → xM → Prop} {x2 y z0 : Int32} {r1 : Nat} {n_r1 : Nat} (hS_r1 : isStrip L r1 n_r1) : X 146 53 [.ref 2, .ref r1, .int x2] [.int y, .int z0] (SH L, mi, ml, MR) (d + 1) Q =
    if (z0 < y) then (Xm 90 [.ref r1, .int x2] (SH L, mi, ml, MR) d (fun v μ' => X 146 61 [.ref 2, .ref r1, .int x2] (v.toList ++ []) μ' (d + 1) Q)) else (Xm 74 [.ref 51, .ref r1] (SH L, mi, ml, MR) d (fun v μ' => X 146 87 [.ref 2, .ref r1, .int x2] (v.toList ++ []) μ' (d + 1) Q)) := by
  refine (R_icmp_ge (off := 26) (t := 79) (by decide +kernel) (by decide +kernel)).trans (ite_congr rfl (fun c0 => ?_) (fun c0 => ?_))
  · refine (R_pure0 (ins := .aload_n 1) (len := 1) (loc' := [.ref 2, .ref r1, .int x2]) (st' := [.ref r1]) (by decide +kernel) (fun _ => rfl)).trans ?_
    refine (R_pure0 (ins := .iload_n 2) (len := 1) (loc' := [.ref 2, .ref r1, .int x2]) (st' := [.int x2, .ref r1]) (by decide +kernel) (fun _ => rfl)).trans ?_
    refine (R_virt (i := 93) (f := 90) (kd := 0) (na := 1) (ml := 2) (ci := 8) (n := 2) (b := r1) (As := [.int x2]) (rest := []) (by decide +kernel) (by decide +kernel) (by decide) (by decide +kernel) rfl (by decide +kernel) hS_r1.1 rfl (by decide +kernel) (Nat.le_of_ble_eq_true rfl)).trans ?_
    rfl
  · refine (R_pure0 (ins := .aload_n 0) (len := 1) (loc' := [.ref 2, .ref r1, .int x2]) (st' := [.ref 2]) (by decide +kernel) (fun _ => rfl)).trans ?_
    refine (R_gr (i := 52) (ci := 9) (k := 6) (n := 12) (b := 51) (by decide +kernel) (by decide +kernel) (by decide) rfl (SH_ref (by decide +kernel))).trans ?_
    refine (R_pure0 (ins := .aload_n 1) (len := 1) (loc' := [.ref 2, .ref r1, .int x2]) (st' := [.ref r1, .ref 51]) (by decide +kernel) (fun _ => rfl)).trans ?_
    refine (R_virt (i := 331) (f := 74) (kd := 0) (na := 1) (ml := 2) (ci := 6) (n := 12) (b := 51) (As := [.ref r1]) (rest := []) (by decide +kernel) (by decide +kernel) (by decide) (by decide +kernel) rfl (by decide +kernel) rfl rfl (by decide +kernel) (Nat.le_of_ble_eq_true rfl)).trans ?_
    rfl
theorem s146_61 {L : Nat} {mi : Nat → Nat → Int32} {ml : Nat → Nat → Int64} {d : Nat} {Q : Option Value → xM → Prop} {x2 y : Int32} {r1 : Nat} {n_r1 : Nat} (hS_r1 : isStrip L r1 n_r1) : X 146 61 [.ref 2, .ref r1, .int x2] [.int y] (SH L, mi, ml, MR) (d + 1) Q =
    Xm 143 [.int y] (SH L, mi, ml, MR) d (fun v μ' => X 146 64 [.ref 2, .ref r1, .int x2] (v.toList ++ []) μ' (d + 1) Q) := by
  refine (R_static (i := 259) (f := 143) (kd := 2) (na := 1) (ml := 1) (As := [.int y]) (rest := []) (by decide +kernel) (by decide +kernel) (by decide) (by decide +kernel) rfl rfl (by decide +kernel) (Nat.le_of_ble_eq_true rfl)).trans ?_
  rfl
theorem s146_87 {L : Nat} {mi : Nat → Nat → Int32} {ml : Nat → Nat → Int64} {d : Nat} {Q : Option Value → xM → Prop} {x2 : Int32} {r1 : Nat} {n_r1 : Nat} (hS_r1 : isStrip L r1 n_r1) : X 146 87 [.ref 2, .ref r1, .int x2] [] (SH L, mi, ml, MR) d Q =
    Q (some (.int 0)) (SH L, mi, ml, MR) := by
  refine (R_iconst (n := 0) (v := 0) (by decide +kernel) (by decide +kernel)).trans ?_
  exact R_ireturn (by decide +kernel) (by decide +kernel)
theorem s146_64 {L : Nat} {mi : Nat → Nat → Int32} {ml : Nat → Nat → Int64} {d : Nat} {Q : Option Value → xM → Prop} {x2 y : Int32} {r1 : Nat} {n_r1 : Nat} (hS_r1 : isStrip L r1 n_r1) : X 146 64 [.ref 2, .ref r1, .int x2] [.int y] (SH L, mi, ml, MR) (d + 1) Q =
    if (y = 0) then (Xm 141 [.ref 2, .int 3] (SH L, mi, ml, MR) d (fun v μ' => X 146 72 [.ref 2, .ref r1, .int x2] (v.toList ++ []) μ' (d + 1) Q)) else (X 146 48 [.ref 2, .ref r1, .int (x2 + 1)] [] (SH L, mi, ml, MR) (d + 1) Q) := by
  refine (R_if_ne (off := 9) (t := 73) (by decide +kernel) (by decide +kernel)).trans (ite_congr rfl (fun c0 => ?_) (fun c0 => ?_))
  · refine (R_pure0 (ins := .aload_n 0) (len := 1) (loc' := [.ref 2, .ref r1, .int x2]) (st' := [.ref 2]) (by decide +kernel) (fun _ => rfl)).trans ?_
    refine (R_iconst (n := 3) (v := 3) (by decide +kernel) (by decide +kernel)).trans ?_
    refine (R_virt (i := 106) (f := 141) (kd := 0) (na := 1) (ml := 2) (ci := 9) (n := 12) (b := 2) (As := [.int 3]) (rest := []) (by decide +kernel) (by decide +kernel) (by decide) (by decide +kernel) rfl (by decide +kernel) rfl rfl (by decide +kernel) (Nat.le_of_ble_eq_true rfl)).trans ?_
    rfl
  · refine (R_iinc (k := 2) (n := 1) (x := x2) (v := (x2 + 1)) (loc' := [.ref 2, .ref r1, .int (x2 + 1)]) (by decide +kernel) rfl rfl rfl).trans ?_
    refine (R_goto (off := (-28)) (t := 48) (by decide +kernel) (by decide +kernel)).trans ?_
    rfl
theorem s146_72 {L : Nat} {mi : Nat → Nat → Int32} {ml : Nat → Nat → Int64} {d : Nat} {Q : Option Value → xM → Prop} {x2 y : Int32} {r1 : Nat} {n_r1 : Nat} (hS_r1 : isStrip L r1 n_r1) : X 146 72 [.ref 2, .ref r1, .int x2] [.int y] (SH L, mi, ml, MR) d Q =
    Q (some (.int y)) (SH L, mi, ml, MR) := by
  exact R_ireturn (by decide +kernel) (by decide +kernel)
theorem s147 {L : Nat} {mi : Nat → Nat → Int32} {ml : Nat → Nat → Int64} {d : Nat} {Q : Option Value → xM → Prop} {r1 : Nat} {n_r1 : Nat} (hS_r1 : isStrip L r1 n_r1) : Xm 147 [.ref 2, .ref r1] (SH L, mi, ml, MR) (d + 1) Q =
    Xm 87 [.ref r1] (SH L, mi, ml, MR) d (fun v μ' => X 147 10 [.ref 2, .ref r1, xmk] (v.toList ++ []) μ' (d + 1) Q) := by
  rw [Xm_ent (n := 3) (loc := [.ref 2, .ref r1, xmk]) (by decide +kernel) rfl]
  refine (R_pure0 (ins := .aload_n 1) (len := 1) (loc' := [.ref 2, .ref r1, xmk]) (st' := [.ref r1]) (by decide +kernel) (fun _ => rfl)).trans ?_
  refine (R_ifnonnull_r (off := 5) (t := 6) (by decide +kernel) (by decide +kernel)).trans ?_
  refine (R_pure0 (ins := .aload_n 1) (len := 1) (loc' := [.ref 2, .ref r1, xmk]) (st' := [.ref r1]) (by decide +kernel) (fun _ => rfl)).trans ?_
  refine (R_virt (i := 102) (f := 87) (kd := 0) (na := 0) (ml := 1) (ci := 8) (n := 2) (b := r1) (As := []) (rest := []) (by decide +kernel) (by decide +kernel) (by decide) (by decide +kernel) rfl (by decide +kernel) hS_r1.1 rfl (by decide +kernel) (Nat.le_of_ble_eq_true rfl)).trans ?_
  rfl
theorem s147n {L : Nat} {mi : Nat → Nat → Int32} {ml : Nat → Nat → Int64} {d : Nat} {Q : Option Value → xM → Prop} : Xm 147 [.ref 2, .null] (SH L, mi, ml, MR) d Q =
    Q (some (.int (-1))) (SH L, mi, ml, MR) := by
  rw [Xm_ent (n := 3) (loc := [.ref 2, .null, xmk]) (by decide +kernel) rfl]
  refine (R_pure0 (ins := .aload_n 1) (len := 1) (loc' := [.ref 2, .null, xmk]) (st' := [.null]) (by decide +kernel) (fun _ => rfl)).trans ?_
  refine (R_ifnonnull_n (off := 5) (by decide +kernel)).trans ?_
  refine (R_iconst (n := (-1)) (v := (-1)) (by decide +kernel) (by decide +kernel)).trans ?_
  exact R_ireturn (by decide +kernel) (by decide +kernel)
theorem s147_10 {L : Nat} {mi : Nat → Nat → Int32} {ml : Nat → Nat → Int64} {d : Nat} {Q : Option Value → xM → Prop} {y : Int32} {r1 : Nat} {n_r1 : Nat} (hS_r1 : isStrip L r1 n_r1) : X 147 10 [.ref 2, .ref r1, xmk] [.int y] (SH L, mi, ml, MR) (d + 1) Q =
    if (y = 0) then (Xm 88 [.ref r1] (SH L, mi, ml, MR) d (fun v μ' => X 147 23 [.ref 2, .ref r1, xmk] (v.toList ++ []) μ' (d + 1) Q)) else (Xm 141 [.ref 2, .int 1] (SH L, mi, ml, MR) d (fun v μ' => X 147 18 [.ref 2, .ref r1, xmk] (v.toList ++ []) μ' (d + 1) Q)) := by
  refine (R_if_eq (off := 9) (t := 19) (by decide +kernel) (by decide +kernel)).trans (ite_congr rfl (fun c0 => ?_) (fun c0 => ?_))
  · refine (R_pure0 (ins := .aload_n 1) (len := 1) (loc' := [.ref 2, .ref r1, xmk]) (st' := [.ref r1]) (by decide +kernel) (fun _ => rfl)).trans ?_
    refine (R_virt (i := 120) (f := 88) (kd := 0) (na := 0) (ml := 1) (ci := 8) (n := 2) (b := r1) (As := []) (rest := []) (by decide +kernel) (by decide +kernel) (by decide) (by decide +kernel) rfl (by decide +kernel) hS_r1.1 rfl (by decide +kernel) (Nat.le_of_ble_eq_true rfl)).trans ?_
    rfl
  · refine (R_pure0 (ins := .aload_n 0) (len := 1) (loc' := [.ref 2, .ref r1, xmk]) (st' := [.ref 2]) (by decide +kernel) (fun _ => rfl)).trans ?_
    refine (R_iconst (n := 1) (v := 1) (by decide +kernel) (by decide +kernel)).trans ?_
    refine (R_virt (i := 106) (f := 141) (kd := 0) (na := 1) (ml := 2) (ci := 9) (n := 12) (b := 2) (As := [.int 1]) (rest := []) (by decide +kernel) (by decide +kernel) (by decide) (by decide +kernel) rfl (by decide +kernel) rfl rfl (by decide +kernel) (Nat.le_of_ble_eq_true rfl)).trans ?_
    rfl
theorem s147_23 {L : Nat} {mi : Nat → Nat → Int32} {ml : Nat → Nat → Int64} {d : Nat} {Q : Option Value → xM → Prop} {y : Int32} {r1 : Nat} {n_r1 : Nat} (hS_r1 : isStrip L r1 n_r1) : X 147 23 [.ref 2, .ref r1, xmk] [.int y] (SH L, mi, ml, MR) (d + 1) Q =
    if ((y - y / 2 * 2) = 0) then (X 147 36 [.ref 2, .ref r1, .int 0] [] (SH L, mi, ml, MR) (d + 1) Q) else (Xm 141 [.ref 2, .int 5] (SH L, mi, ml, MR) d (fun v μ' => X 147 33 [.ref 2, .ref r1, xmk] (v.toList ++ []) μ' (d + 1) Q)) := by
  refine (R_iconst (n := 2) (v := 2) (by decide +kernel) (by decide +kernel)).trans ?_
  refine (R_irem (x := y) (y := 2) (by decide +kernel) (by decide)).trans ?_
  refine (R_if_eq (off := 9) (t := 34) (by decide +kernel) (by decide +kernel)).trans (ite_congr rfl (fun c0 => ?_) (fun c0 => ?_))
  · refine (R_iconst (n := 0) (v := 0) (by decide +kernel) (by decide +kernel)).trans ?_
    refine (R_pure0 (ins := .istore_n 2) (len := 1) (loc' := [.ref 2, .ref r1, .int 0]) (st' := []) (by decide +kernel) (fun _ => rfl)).trans ?_
    rfl
  · refine (R_pure0 (ins := .aload_n 0) (len := 1) (loc' := [.ref 2, .ref r1, xmk]) (st' := [.ref 2]) (by decide +kernel) (fun _ => rfl)).trans ?_
    refine (R_iconst (n := 5) (v := 5) (by decide +kernel) (by decide +kernel)).trans ?_
    refine (R_virt (i := 106) (f := 141) (kd := 0) (na := 1) (ml := 2) (ci := 9) (n := 12) (b := 2) (As := [.int 5]) (rest := []) (by decide +kernel) (by decide +kernel) (by decide) (by decide +kernel) rfl (by decide +kernel) rfl rfl (by decide +kernel) (Nat.le_of_ble_eq_true rfl)).trans ?_
    rfl
theorem s147_18 {L : Nat} {mi : Nat → Nat → Int32} {ml : Nat → Nat → Int64} {d : Nat} {Q : Option Value → xM → Prop} {y : Int32} {r1 : Nat} {n_r1 : Nat} (hS_r1 : isStrip L r1 n_r1) : X 147 18 [.ref 2, .ref r1, xmk] [.int y] (SH L, mi, ml, MR) d Q =
    Q (some (.int y)) (SH L, mi, ml, MR) := by
  exact R_ireturn (by decide +kernel) (by decide +kernel)
theorem s147_36 {L : Nat} {mi : Nat → Nat → Int32} {ml : Nat → Nat → Int64} {d : Nat} {Q : Option Value → xM → Prop} {x2 : Int32} {r1 : Nat} {n_r1 : Nat} (hS_r1 : isStrip L r1 n_r1) : X 147 36 [.ref 2, .ref r1, .int x2] [] (SH L, mi, ml, MR) (d + 1) Q =
    Xm 88 [.ref r1] (SH L, mi, ml, MR) d (fun v μ' => X 147 41 [.ref 2, .ref r1, .int x2] (v.toList ++ [.int x2]) μ' (d + 1) Q) := by
  refine (R_pure0 (ins := .iload_n 2) (len := 1) (loc' := [.ref 2, .ref r1, .int x2]) (st' := [.int x2]) (by decide +kernel) (fun _ => rfl)).trans ?_
  refine (R_pure0 (ins := .aload_n 1) (len := 1) (loc' := [.ref 2, .ref r1, .int x2]) (st' := [.ref r1, .int x2]) (by decide +kernel) (fun _ => rfl)).trans ?_
  refine (R_virt (i := 120) (f := 88) (kd := 0) (na := 0) (ml := 1) (ci := 8) (n := 2) (b := r1) (As := []) (rest := [.int x2]) (by decide +kernel) (by decide +kernel) (by decide) (by decide +kernel) rfl (by decide +kernel) hS_r1.1 rfl (by decide +kernel) (Nat.le_of_ble_eq_true rfl)).trans ?_
  rfl
theorem s147_33 {L : Nat} {mi : Nat → Nat → Int32} {ml : Nat → Nat → Int64} {d : Nat} {Q : Option Value → xM → Prop} {y : Int32} {r1 : Nat} {n_r1 : Nat} (hS_r1 : isStrip L r1 n_r1) : X 147 33 [.ref 2, .ref r1, xmk] [.int y] (SH L, mi, ml, MR) d Q =
    Q (some (.int y)) (SH L, mi, ml, MR) := by
  exact R_ireturn (by decide +kernel) (by decide +kernel)
theorem s147_41 {L : Nat} {mi : Nat → Nat → Int32} {ml : Nat → Nat → Int64} {d : Nat} {Q : Option Value → xM → Prop} {x2 y z0 : Int32} {r1 : Nat} {n_r1 : Nat} (hS_r1 : isStrip L r1 n_r1) : X 147 41 [.ref 2, .ref r1, .int x2] [.int y, .int z0] (SH L, mi, ml, MR) (d + 1) Q =
    if (z0 < y) then (Xm 90 [.ref r1, .int x2] (SH L, mi, ml, MR) d (fun v μ' => X 147 49 [.ref 2, .ref r1, .int x2] (v.toList ++ []) μ' (d + 1) Q)) else (Xm 6 [.ref 62, .ref r1] (SH L, mi, ml, MR) d (fun v μ' => X 147 88 [.ref 2, .ref r1, .int x2] (v.toList ++ []) μ' (d + 1) Q)) := by
  refine (R_icmp_ge (off := 39) (t := 80) (by decide +kernel) (by decide +kernel)).trans (ite_congr rfl (fun c0 => ?_) (fun c0 => ?_))
  · refine (R_pure0 (ins := .aload_n 1) (len := 1) (loc' := [.ref 2, .ref r1, .int x2]) (st' := [.ref r1]) (by decide +kernel) (fun _ => rfl)).trans ?_
    refine (R_pure0 (ins := .iload_n 2) (len := 1) (loc' := [.ref 2, .ref r1, .int x2]) (st' := [.int x2, .ref r1]) (by decide +kernel) (fun _ => rfl)).trans ?_
    refine (R_virt (i := 93) (f := 90) (kd := 0) (na := 1) (ml := 2) (ci := 8) (n := 2) (b := r1) (As := [.int x2]) (rest := []) (by decide +kernel) (by decide +kernel) (by decide) (by decide +kernel) rfl (by decide +kernel) hS_r1.1 rfl (by decide +kernel) (Nat.le_of_ble_eq_true rfl)).trans ?_
    rfl
  · refine (R_pure0 (ins := .aload_n 0) (len := 1) (loc' := [.ref 2, .ref r1, .int x2]) (st' := [.ref 2]) (by decide +kernel) (fun _ => rfl)).trans ?_
    refine (R_gr (i := 59) (ci := 9) (k := 7) (n := 12) (b := 62) (by decide +kernel) (by decide +kernel) (by decide) rfl (SH_ref (by decide +kernel))).trans ?_
    refine (R_pure0 (ins := .aload_n 1) (len := 1) (loc' := [.ref 2, .ref r1, .int x2]) (st' := [.ref r1, .ref 62]) (by decide +kernel) (fun _ => rfl)).trans ?_
    refine (R_virt (i := 334) (f := 6) (kd := 0) (na := 1) (ml := 4) (ci := 1) (n := 2) (b := 62) (As := [.ref r1]) (rest := []) (by decide +kernel) (by decide +kernel) (by decide) (by decide +kernel) rfl (by decide +kernel) rfl rfl (by decide +kernel) (Nat.le_of_ble_eq_true rfl)).trans ?_
    rfl
theorem s147_49 {L : Nat} {mi : Nat → Nat → Int32} {ml : Nat → Nat → Int64} {d : Nat} {Q : Option Value → xM → Prop} {x2 y : Int32} {r1 : Nat} {n_r1 : Nat} (hS_r1 : isStrip L r1 n_r1) : X 147 49 [.ref 2, .ref r1, .int x2] [.int y] (SH L, mi, ml, MR) (d + 1) Q =
    Xm 142 [.int y] (SH L, mi, ml, MR) d (fun v μ' => X 147 52 [.ref 2, .ref r1, .int x2] (v.toList ++ []) μ' (d + 1) Q) := by
  refine (R_static (i := 160) (f := 142) (kd := 2) (na := 1) (ml := 1) (As := [.int y]) (rest := []) (by decide +kernel) (by decide +kernel) (by decide) (by decide +kernel) rfl rfl (by decide +kernel) (Nat.le_of_ble_eq_true rfl)).trans ?_
  rfl
theorem s147_88 {L : Nat} {mi : Nat → Nat → Int32} {ml : Nat → Nat → Int64} {d : Nat} {Q : Option Value → xM → Prop} {x2 : Int32} {r1 : Nat} {n_r1 : Nat} (hS_r1 : isStrip L r1 n_r1) : X 147 88 [.ref 2, .ref r1, .int x2] [] (SH L, mi, ml, MR) d Q =
    Q (some (.int 0)) (SH L, mi, ml, MR) := by
  refine (R_iconst (n := 0) (v := 0) (by decide +kernel) (by decide +kernel)).trans ?_
  exact R_ireturn (by decide +kernel) (by decide +kernel)
theorem s147_52 {L : Nat} {mi : Nat → Nat → Int32} {ml : Nat → Nat → Int64} {d : Nat} {Q : Option Value → xM → Prop} {x2 y : Int32} {r1 : Nat} {n_r1 : Nat} (hS_r1 : isStrip L r1 n_r1) : X 147 52 [.ref 2, .ref r1, .int x2] [.int y] (SH L, mi, ml, MR) (d + 1) Q =
    if (y = 0) then (Xm 141 [.ref 2, .int 3] (SH L, mi, ml, MR) d (fun v μ' => X 147 73 [.ref 2, .ref r1, .int x2] (v.toList ++ []) μ' (d + 1) Q)) else (Xm 90 [.ref r1, .int (x2 + 1)] (SH L, mi, ml, MR) d (fun v μ' => X 147 62 [.ref 2, .ref r1, .int x2] (v.toList ++ []) μ' (d + 1) Q)) := by
  refine (R_if_eq (off := 16) (t := 68) (by decide +kernel) (by decide +kernel)).trans (ite_congr rfl (fun c0 => ?_) (fun c0 => ?_))
  · refine (R_pure0 (ins := .aload_n 0) (len := 1) (loc' := [.ref 2, .ref r1, .int x2]) (st' := [.ref 2]) (by decide +kernel) (fun _ => rfl)).trans ?_
    refine (R_iconst (n := 3) (v := 3) (by decide +kernel) (by decide +kernel)).trans ?_
    refine (R_virt (i := 106) (f := 141) (kd := 0) (na := 1) (ml := 2) (ci := 9) (n := 12) (b := 2) (As := [.int 3]) (rest := []) (by decide +kernel) (by decide +kernel) (by decide) (by decide +kernel) rfl (by decide +kernel) rfl rfl (by decide +kernel) (Nat.le_of_ble_eq_true rfl)).trans ?_
    rfl
  · refine (R_pure0 (ins := .aload_n 1) (len := 1) (loc' := [.ref 2, .ref r1, .int x2]) (st' := [.ref r1]) (by decide +kernel) (fun _ => rfl)).trans ?_
    refine (R_pure0 (ins := .iload_n 2) (len := 1) (loc' := [.ref 2, .ref r1, .int x2]) (st' := [.int x2, .ref r1]) (by decide +kernel) (fun _ => rfl)).trans ?_
    refine (R_iconst (n := 1) (v := 1) (by decide +kernel) (by decide +kernel)).trans ?_
    refine (R_pure0 (ins := .iadd) (len := 1) (loc' := [.ref 2, .ref r1, .int x2]) (st' := [.int (x2 + 1), .ref r1]) (by decide +kernel) (fun _ => rfl)).trans ?_
    refine (R_virt (i := 93) (f := 90) (kd := 0) (na := 1) (ml := 2) (ci := 8) (n := 2) (b := r1) (As := [.int (x2 + 1)]) (rest := []) (by decide +kernel) (by decide +kernel) (by decide) (by decide +kernel) rfl (by decide +kernel) hS_r1.1 rfl (by decide +kernel) (Nat.le_of_ble_eq_true rfl)).trans ?_
    rfl
theorem s147_73 {L : Nat} {mi : Nat → Nat → Int32} {ml : Nat → Nat → Int64} {d : Nat} {Q : Option Value → xM → Prop} {x2 y : Int32} {r1 : Nat} {n_r1 : Nat} (hS_r1 : isStrip L r1 n_r1) : X 147 73 [.ref 2, .ref r1, .int x2] [.int y] (SH L, mi, ml, MR) d Q =
    Q (some (.int y)) (SH L, mi, ml, MR) := by
  exact R_ireturn (by decide +kernel) (by decide +kernel)
theorem s147_62 {L : Nat} {mi : Nat → Nat → Int32} {ml : Nat → Nat → Int64} {d : Nat} {Q : Option Value → xM → Prop} {x2 y : Int32} {r1 : Nat} {n_r1 : Nat} (hS_r1 : isStrip L r1 n_r1) : X 147 62 [.ref 2, .ref r1, .int x2] [.int y] (SH L, mi, ml, MR) (d + 1) Q =
    Xm 143 [.int y] (SH L, mi, ml, MR) d (fun v μ' => X 147 65 [.ref 2, .ref r1, .int x2] (v.toList ++ []) μ' (d + 1) Q) := by
  refine (R_static (i := 259) (f := 143) (kd := 2) (na := 1) (ml := 1) (As := [.int y]) (rest := []) (by decide +kernel) (by decide +kernel) (by decide) (by decide +kernel) rfl rfl (by decide +kernel) (Nat.le_of_ble_eq_true rfl)).trans ?_
  rfl
theorem s147_65 {L : Nat} {mi : Nat → Nat → Int32} {ml : Nat → Nat → Int64} {d : Nat} {Q : Option Value → xM → Prop} {x2 y : Int32} {r1 : Nat} {n_r1 : Nat} (hS_r1 : isStrip L r1 n_r1) : X 147 65 [.ref 2, .ref r1, .int x2] [.int y] (SH L, mi, ml, MR) (d + 1) Q =
    if (y = 0) then (Xm 141 [.ref 2, .int 3] (SH L, mi, ml, MR) d (fun v μ' => X 147 73 [.ref 2, .ref r1, .int x2] (v.toList ++ []) μ' (d + 1) Q)) else (X 147 36 [.ref 2, .ref r1, .int (x2 + 2)] [] (SH L, mi, ml, MR) (d + 1) Q) := by
  refine (R_if_ne (off := 9) (t := 74) (by decide +kernel) (by decide +kernel)).trans (ite_congr rfl (fun c0 => ?_) (fun c0 => ?_))
  · refine (R_pure0 (ins := .aload_n 0) (len := 1) (loc' := [.ref 2, .ref r1, .int x2]) (st' := [.ref 2]) (by decide +kernel) (fun _ => rfl)).trans ?_
    refine (R_iconst (n := 3) (v := 3) (by decide +kernel) (by decide +kernel)).trans ?_
    refine (R_virt (i := 106) (f := 141) (kd := 0) (na := 1) (ml := 2) (ci := 9) (n := 12) (b := 2) (As := [.int 3]) (rest := []) (by decide +kernel) (by decide +kernel) (by decide) (by decide +kernel) rfl (by decide +kernel) rfl rfl (by decide +kernel) (Nat.le_of_ble_eq_true rfl)).trans ?_
    rfl
  · refine (R_iinc (k := 2) (n := 2) (x := x2) (v := (x2 + 2)) (loc' := [.ref 2, .ref r1, .int (x2 + 2)]) (by decide +kernel) rfl rfl rfl).trans ?_
    refine (R_goto (off := (-41)) (t := 36) (by decide +kernel) (by decide +kernel)).trans ?_
    rfl
