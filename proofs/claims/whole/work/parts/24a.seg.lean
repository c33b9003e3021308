theorem s44 {L : Nat} {mi : Nat → Nat → Int32} {ml : Nat → Nat → Int64} {d : Nat} {Q : Option Value → xM → Prop} {x0 : Int32} : Xm 44 [.int x0] (SH L, mi, ml, MR) d Q =
    X 44 2 [.int x0, .int 0] [] (SH L, mi, ml, MR) d Q := by
  rw [Xm_ent (n := 2) (loc := [.int x0, xmk]) (by decide +kernel) rfl]
  refine (R_iconst (n := 0) (v := 0) (by decide +kernel) (by decide +kernel)).trans ?_
  refine (R_pure0 (ins := .istore_n 1) (len := 1) (loc' := [.int x0, .int 0]) (st' := []) (by decide +kernel) (fun _ => rfl)).trans ?_
  rfl
theorem s44_2 {L : Nat} {mi : Nat → Nat → Int32} {ml : Nat → Nat → Int64} {d : Nat} {Q : Option Value → xM → Prop} {x0 x1 : Int32} (h1 : (x1 < 6) → xin x1 6 = true) : X 44 2 [.int x0, .int x1] [] (SH L, mi, ml, MR) d Q =
    if (x1 < 6) then (if ((mi 1 x1.toNatClampNeg) = x0) then (Q (some (.int x1)) (SH L, mi, ml, MR)) else (X 44 2 [.int x0, .int (x1 + 1)] [] (SH L, mi, ml, MR) d Q)) else (Q (some (.int (-9))) (SH L, mi, ml, MR)) := by
  refine (R_pure0 (ins := .iload_n 1) (len := 1) (loc' := [.int x0, .int x1]) (st' := [.int x1]) (by decide +kernel) (fun _ => rfl)).trans ?_
  refine (R_getstatic (i := 9) (by decide +kernel) (by decide +kernel)).trans ?_
  refine (R_arraylength (kd := 105) (n := 6) (by decide +kernel) rfl (by decide)).trans ?_
  show X 44 7 [.int x0, .int x1] [.int 6, .int x1] (SH L, mi, ml, MR) _ _ = _
  refine (R_icmp_ge (off := 20) (t := 27) (by decide +kernel) (by decide +kernel)).trans (ite_congr rfl (fun c0 => ?_) (fun c0 => ?_))
  · refine (R_getstatic (i := 9) (by decide +kernel) (by decide +kernel)).trans ?_
    refine (R_pure0 (ins := .iload_n 1) (len := 1) (loc' := [.int x0, .int x1]) (st' := [.int x1, .ref 1]) (by decide +kernel) (fun _ => rfl)).trans ?_
    refine (R_iaload (kd := 105) (n := 6) (by decide +kernel) rfl (by decide) (h1 c0)).trans ?_
    refine (R_pure0 (ins := .iload_n 0) (len := 1) (loc' := [.int x0, .int x1]) (st' := [.int x0, .int (mi 1 x1.toNatClampNeg)]) (by decide +kernel) (fun _ => rfl)).trans ?_
    refine (R_icmp_ne (off := 5) (t := 21) (by decide +kernel) (by decide +kernel)).trans (ite_congr rfl (fun c1 => ?_) (fun c1 => ?_))
    · refine (R_pure0 (ins := .iload_n 1) (len := 1) (loc' := [.int x0, .int x1]) (st' := [.int x1]) (by decide +kernel) (fun _ => rfl)).trans ?_
      exact R_ireturn (by decide +kernel) (by decide +kernel)
    · refine (R_iinc (k := 1) (n := 1) (x := x1) (v := (x1 + 1)) (loc' := [.int x0, .int (x1 + 1)]) (by decide +kernel) rfl rfl rfl).trans ?_
      refine (R_goto (off := (-22)) (t := 2) (by decide +kernel) (by decide +kernel)).trans ?_
      rfl
  · refine (R_bipush (n := (-9)) (v := (-9)) (by decide +kernel) (by decide +kernel)).trans ?_
    exact R_ireturn (by decide +kernel) (by decide +kernel)
theorem s45 {L : Nat} {mi : Nat → Nat → Int32} {ml : Nat → Nat → Int64} {d : Nat} {Q : Option Value → xM → Prop} {x0 x1 : Int32} : Xm 45 [.int x0, .int x1] (SH L, mi, ml, MR) d Q =
    if (x0 = x1) then (Q (some (.int 1)) (SH L, mi, ml, MR)) else (if (x1 = 0) then (Q (some (.int 1)) (SH L, mi, ml, MR)) else (if (x0 = 4) then (if (x1 = 1) then (Q (some (.int 1)) (SH L, mi, ml, MR)) else (if (x0 = 5) then (if (x1 = 2) then (Q (some (.int 1)) (SH L, mi, ml, MR)) else (Q (some (.int 0)) (SH L, mi, ml, MR))) else (Q (some (.int 0)) (SH L, mi, ml, MR)))) else (if (x0 = 5) then (if (x1 = 2) then (Q (some (.int 1)) (SH L, mi, ml, MR)) else (Q (some (.int 0)) (SH L, mi, ml, MR))) else (Q (some (.int 0)) (SH L, mi, ml, MR))))) := by
  rw [Xm_ent (n := 2) (loc := [.int x0, .int x1]) (by decide +kernel) rfl]
  refine (R_pure0 (ins := .iload_n 0) (len := 1) (loc' := [.int x0, .int x1]) (st' := [.int x0]) (by decide +kernel) (fun _ => rfl)).trans ?_
  refine (R_pure0 (ins := .iload_n 1) (len := 1) (loc' := [.int x0, .int x1]) (st' := [.int x1, .int x0]) (by decide +kernel) (fun _ => rfl)).trans ?_
  refine (R_icmp_eq (off := 27) (t := 29) (by decide +kernel) (by decide +kernel)).trans (ite_congr rfl (fun c0 => ?_) (fun c0 => ?_))
  · refine (R_iconst (n := 1) (v := 1) (by decide +kernel) (by decide +kernel)).trans ?_
    refine (R_goto (off := 4) (t := 34) (by decide +kernel) (by decide +kernel)).trans ?_
    exact R_zreturn (by decide +kernel) (by decide +kernel) (by decide)
  · refine (R_pure0 (ins := .iload_n 1) (len := 1) (loc' := [.int x0, .int x1]) (st' := [.int x1]) (by decide +kernel) (fun _ => rfl)).trans ?_
    refine (R_if_eq (off := 23) (t := 29) (by decide +kernel) (by decide +kernel)).trans (ite_congr rfl (fun c1 => ?_) (fun c1 => ?_))
    · refine (R_iconst (n := 1) (v := 1) (by decide +kernel) (by decide +kernel)).trans ?_
      refine (R_goto (off := 4) (t := 34) (by decide +kernel) (by decide +kernel)).trans ?_
      exact R_zreturn (by decide +kernel) (by decide +kernel) (by decide)
    · refine (R_pure0 (ins := .iload_n 0) (len := 1) (loc' := [.int x0, .int x1]) (st' := [.int x0]) (by decide +kernel) (fun _ => rfl)).trans ?_
      refine (R_iconst (n := 4) (v := 4) (by decide +kernel) (by decide +kernel)).trans ?_
      refine (R_icmp_ne (off := 8) (t := 19) (by decide +kernel) (by decide +kernel)).trans (ite_congr rfl (fun c2 => ?_) (fun c2 => ?_))
      · refine (R_pure0 (ins := .iload_n 1) (len := 1) (loc' := [.int x0, .int x1]) (st' := [.int x1]) (by decide +kernel) (fun _ => rfl)).trans ?_
        refine (R_iconst (n := 1) (v := 1) (by decide +kernel) (by decide +kernel)).trans ?_
        refine (R_icmp_eq (off := 13) (t := 29) (by decide +kernel) (by decide +kernel)).trans (ite_congr rfl (fun c3 => ?_) (fun c3 => ?_))
        · refine (R_iconst (n := 1) (v := 1) (by decide +kernel) (by decide +kernel)).trans ?_
          refine (R_goto (off := 4) (t := 34) (by decide +kernel) (by decide +kernel)).trans ?_
          exact R_zreturn (by decide +kernel) (by decide +kernel) (by decide)
        · refine (R_pure0 (ins := .iload_n 0) (len := 1) (loc' := [.int x0, .int x1]) (st' := [.int x0]) (by decide +kernel) (fun _ => rfl)).trans ?_
          refine (R_iconst (n := 5) (v := 5) (by decide +kernel) (by decide +kernel)).trans ?_
          refine (R_icmp_ne (off := 12) (t := 33) (by decide +kernel) (by decide +kernel)).trans (ite_congr rfl (fun c4 => ?_) (fun c4 => ?_))
          · refine (R_pure0 (ins := .iload_n 1) (len := 1) (loc' := [.int x0, .int x1]) (st' := [.int x1]) (by decide +kernel) (fun _ => rfl)).trans ?_
            refine (R_iconst (n := 2) (v := 2) (by decide +kernel) (by decide +kernel)).trans ?_
            refine (R_icmp_ne (off := 7) (t := 33) (by decide +kernel) (by decide +kernel)).trans (ite_congr rfl (fun c5 => ?_) (fun c5 => ?_))
            · refine (R_iconst (n := 1) (v := 1) (by decide +kernel) (by decide +kernel)).trans ?_
              refine (R_goto (off := 4) (t := 34) (by decide +kernel) (by decide +kernel)).trans ?_
              exact R_zreturn (by decide +kernel) (by decide +kernel) (by decide)
            · refine (R_iconst (n := 0) (v := 0) (by decide +kernel) (by decide +kernel)).trans ?_
              exact R_zreturn (by decide +kernel) (by decide +kernel) (by decide)
          · refine (R_iconst (n := 0) (v := 0) (by decide +kernel) (by decide +kernel)).trans ?_
            exact R_zreturn (by decide +kernel) (by decide +kernel) (by decide)
      · refine (R_pure0 (ins := .iload_n 0) (len := 1) (loc' := [.int x0, .int x1]) (st' := [.int x0]) (by decide +kernel) (fun _ => rfl)).trans ?_
        refine (R_iconst (n := 5) (v := 5) (by decide +kernel) (by decide +kernel)).trans ?_
        refine (R_icmp_ne (off := 12) (t := 33) (by decide +kernel) (by decide +kernel)).trans (ite_congr rfl (fun c6 => ?_) (fun c6 => ?_))
        · refine (R_pure0 (ins := .iload_n 1) (len := 1) (loc' := [.int x0, .int x1]) (st' := [.int x1]) (by decide +kernel) (fun _ => rfl)).trans ?_
          refine (R_iconst (n := 2) (v := 2) (by decide +kernel) (by decide +kernel)).trans ?_
          refine (R_icmp_ne (off := 7) (t := 33) (by decide +kernel) (by decide +kernel)).trans (ite_congr rfl (fun c7 => ?_) (fun c7 => ?_))
          · refine (R_iconst (n := 1) (v := 1) (by decide +kernel) (by decide +kernel)).trans ?_
            refine (R_goto (off := 4) (t := 34) (by decide +kernel) (by decide +kernel)).trans ?_
            exact R_zreturn (by decide +kernel) (by decide +kernel) (by decide)
          · refine (R_iconst (n := 0) (v := 0) (by decide +kernel) (by decide +kernel)).trans ?_
            exact R_zreturn (by decide +kernel) (by decide +kernel) (by decide)
        · refine (R_iconst (n := 0) (v := 0) (by decide +kernel) (by decide +kernel)).trans ?_
          exact R_zreturn (by decide +kernel) (by decide +kernel) (by decide)
theorem s46 {L : Nat} {mi : Nat → Nat → Int32} {ml : Nat → Nat → Int64} {d : Nat} {Q : Option Value → xM → Prop} {x0 x1 : Int32} (h1 : ((0 : Int32) < x0) → ((0 : Int32) < x1) → ¬ x1 = 0) : Xm 46 [.int x0, .int x1] (SH L, mi, ml, MR) d Q =
    if ((0 : Int32) < x0) then (if ((0 : Int32) < x1) then (Q (some (.int (if (x0 / x1) < 9 then (x0 / x1) else 9))) (SH L, mi, ml, MR)) else (Q (some (.int 0)) (SH L, mi, ml, MR))) else (Q (some (.int 0)) (SH L, mi, ml, MR)) := by
  rw [Xm_ent (n := 2) (loc := [.int x0, .int x1]) (by decide +kernel) rfl]
  refine (R_pure0 (ins := .iload_n 0) (len := 1) (loc' := [.int x0, .int x1]) (st' := [.int x0]) (by decide +kernel) (fun _ => rfl)).trans ?_
  refine (R_if_le (off := 7) (t := 8) (by decide +kernel) (by decide +kernel)).trans (ite_congr rfl (fun c0 => ?_) (fun c0 => ?_))
  · refine (R_pure0 (ins := .iload_n 1) (len := 1) (loc' := [.int x0, .int x1]) (st' := [.int x1]) (by decide +kernel) (fun _ => rfl)).trans ?_
    refine (R_if_gt (off := 7) (t := 12) (by decide +kernel) (by decide +kernel)).trans (ite_congr rfl (fun c1 => ?_) (fun c1 => ?_))
    · refine (R_bipush (n := 9) (v := 9) (by decide +kernel) (by decide +kernel)).trans ?_
      refine (R_pure0 (ins := .iload_n 0) (len := 1) (loc' := [.int x0, .int x1]) (st' := [.int x0, .int 9]) (by decide +kernel) (fun _ => rfl)).trans ?_
      refine (R_pure0 (ins := .iload_n 1) (len := 1) (loc' := [.int x0, .int x1]) (st' := [.int x1, .int x0, .int 9]) (by decide +kernel) (fun _ => rfl)).trans ?_
      refine (R_idiv (x := x0) (y := x1) (by decide +kernel) (h1 c0 c1)).trans ?_
      refine (R_min (i := 13) (f := 0) (x := 9) (y := (x0 / x1)) (by decide +kernel) (by decide +kernel) rfl).trans ?_
      exact R_ireturn (by decide +kernel) (by decide +kernel)
    · refine (R_iconst (n := 0) (v := 0) (by decide +kernel) (by decide +kernel)).trans ?_
      refine (R_goto (off := 11) (t := 20) (by decide +kernel) (by decide +kernel)).trans ?_
      exact R_ireturn (by decide +kernel) (by decide +kernel)
  · refine (R_iconst (n := 0) (v := 0) (by decide +kernel) (by decide +kernel)).trans ?_
    refine (R_goto (off := 11) (t := 20) (by decide +kernel) (by decide +kernel)).trans ?_
    exact R_ireturn (by decide +kernel) (by decide +kernel)
theorem s47 {L : Nat} {mi : Nat → Nat → Int32} {ml : Nat → Nat → Int64} {d : Nat} {Q : Option Value → xM → Prop} {x0 x1 x2 : Int32} : Xm 47 [.int x0, .int x1, .int x2] (SH L, mi, ml, MR) (d + 1) Q =
    Xm 46 [.int x1, .int x2] (SH L, mi, ml, MR) d (fun v μ' => X 47 5 [.int x0, .int x1, .int x2, xmk] (v.toList ++ []) μ' (d + 1) Q) := by
  rw [Xm_ent (n := 4) (loc := [.int x0, .int x1, .int x2, xmk]) (by decide +kernel) rfl]
  refine (R_pure0 (ins := .iload_n 1) (len := 1) (loc' := [.int x0, .int x1, .int x2, xmk]) (st' := [.int x1]) (by decide +kernel) (fun _ => rfl)).trans ?_
  refine (R_pure0 (ins := .iload_n 2) (len := 1) (loc' := [.int x0, .int x1, .int x2, xmk]) (st' := [.int x2, .int x1]) (by decide +kernel) (fun _ => rfl)).trans ?_
  refine (R_static (i := 19) (f := 46) (kd := 2) (na := 2) (ml := 2) (As := [.int x1, .int x2]) (rest := []) (by decide +kernel) (by decide +kernel) (by decide) (by decide +kernel) rfl rfl (by decide +kernel) (Nat.le_of_ble_eq_true rfl)).trans ?_
  rfl
theorem s47_5 {L : Nat} {mi : Nat → Nat → Int32} {ml : Nat → Nat → Int64} {d : Nat} {Q : Option Value → xM → Prop} {x0 x1 x2 y : Int32} : X 47 5 [.int x0, .int x1, .int x2, xmk] [.int y] (SH L, mi, ml, MR) (d + 1) Q =
    Xm 45 [.int x0, .int 1] (SH L, mi, ml, MR) d (fun v μ' => X 47 11 [.int x0, .int x1, .int x2, .int y] (v.toList ++ []) μ' (d + 1) Q) := by
  refine (R_pure0 (ins := .istore_n 3) (len := 1) (loc' := [.int x0, .int x1, .int x2, .int y]) (st' := []) (by decide +kernel) (fun _ => rfl)).trans ?_
  refine (R_pure0 (ins := .iload_n 0) (len := 1) (loc' := [.int x0, .int x1, .int x2, .int y]) (st' := [.int x0]) (by decide +kernel) (fun _ => rfl)).trans ?_
  refine (R_iconst (n := 1) (v := 1) (by decide +kernel) (by decide +kernel)).trans ?_
  refine (R_static (i := 24) (f := 45) (kd := 2) (na := 2) (ml := 2) (As := [.int x0, .int 1]) (rest := []) (by decide +kernel) (by decide +kernel) (by decide) (by decide +kernel) rfl rfl (by decide +kernel) (Nat.le_of_ble_eq_true rfl)).trans ?_
  rfl
theorem s47_11 {L : Nat} {mi : Nat → Nat → Int32} {ml : Nat → Nat → Int64} {d : Nat} {Q : Option Value → xM → Prop} {x0 x1 x2 x3 y : Int32} : X 47 11 [.int x0, .int x1, .int x2, .int x3] [.int y] (SH L, mi, ml, MR) (d + 1) Q =
    if (y = 0) then (Xm 45 [.int x0, .int 2] (SH L, mi, ml, MR) d (fun v μ' => X 47 36 [.int x0, .int x1, .int x2, .int x3] (v.toList ++ []) μ' (d + 1) Q)) else (if ((0 : Int32) < x1) then (Q (some (.int (if (x3 + 1) < 9 then (x3 + 1) else 9))) (SH L, mi, ml, MR)) else (Q (some (.int 0)) (SH L, mi, ml, MR))) := by
  refine (R_if_eq (off := 20) (t := 31) (by decide +kernel) (by decide +kernel)).trans (ite_congr rfl (fun c0 => ?_) (fun c0 => ?_))
  · refine (R_pure0 (ins := .iload_n 0) (len := 1) (loc' := [.int x0, .int x1, .int x2, .int x3]) (st' := [.int x0]) (by decide +kernel) (fun _ => rfl)).trans ?_
    refine (R_iconst (n := 2) (v := 2) (by decide +kernel) (by decide +kernel)).trans ?_
    refine (R_static (i := 24) (f := 45) (kd := 2) (na := 2) (ml := 2) (As := [.int x0, .int 2]) (rest := []) (by decide +kernel) (by decide +kernel) (by decide) (by decide +kernel) rfl rfl (by decide +kernel) (Nat.le_of_ble_eq_true rfl)).trans ?_
    rfl
  · refine (R_pure0 (ins := .iload_n 1) (len := 1) (loc' := [.int x0, .int x1, .int x2, .int x3]) (st' := [.int x1]) (by decide +kernel) (fun _ => rfl)).trans ?_
    refine (R_if_le (off := 14) (t := 29) (by decide +kernel) (by decide +kernel)).trans (ite_congr rfl (fun c1 => ?_) (fun c1 => ?_))
    · refine (R_bipush (n := 9) (v := 9) (by decide +kernel) (by decide +kernel)).trans ?_
      refine (R_pure0 (ins := .iload_n 3) (len := 1) (loc' := [.int x0, .int x1, .int x2, .int x3]) (st' := [.int x3, .int 9]) (by decide +kernel) (fun _ => rfl)).trans ?_
      refine (R_iconst (n := 1) (v := 1) (by decide +kernel) (by decide +kernel)).trans ?_
      refine (R_pure0 (ins := .iadd) (len := 1) (loc' := [.int x0, .int x1, .int x2, .int x3]) (st' := [.int (x3 + 1), .int 9]) (by decide +kernel) (fun _ => rfl)).trans ?_
      refine (R_min (i := 13) (f := 0) (x := 9) (y := (x3 + 1)) (by decide +kernel) (by decide +kernel) rfl).trans ?_
      refine (R_goto (off := 4) (t := 30) (by decide +kernel) (by decide +kernel)).trans ?_
      exact R_ireturn (by decide +kernel) (by decide +kernel)
    · refine (R_iconst (n := 0) (v := 0) (by decide +kernel) (by decide +kernel)).trans ?_
      exact R_ireturn (by decide +kernel) (by decide +kernel)
theorem s47_36 {L : Nat} {mi : Nat → Nat → Int32} {ml : Nat → Nat → Int64} {d : Nat} {Q : Option Value → xM → Prop} {x0 x1 x2 x3 y : Int32} : X 47 36 [.int x0, .int x1, .int x2, .int x3] [.int y] (SH L, mi, ml, MR) d Q =
    if (y = 0) then (Q (some (.int x3)) (SH L, mi, ml, MR)) else (Q (some (.int (x3 / 2))) (SH L, mi, ml, MR)) := by
  refine (R_if_eq (off := 9) (t := 45) (by decide +kernel) (by decide +kernel)).trans (ite_congr rfl (fun c0 => ?_) (fun c0 => ?_))
  · refine (R_pure0 (ins := .iload_n 3) (len := 1) (loc' := [.int x0, .int x1, .int x2, .int x3]) (st' := [.int x3]) (by decide +kernel) (fun _ => rfl)).trans ?_
    exact R_ireturn (by decide +kernel) (by decide +kernel)
  · refine (R_pure0 (ins := .iload_n 3) (len := 1) (loc' := [.int x0, .int x1, .int x2, .int x3]) (st' := [.int x3]) (by decide +kernel) (fun _ => rfl)).trans ?_
    refine (R_iconst (n := 2) (v := 2) (by decide +kernel) (by decide +kernel)).trans ?_
    refine (R_idiv (x := x3) (y := 2) (by decide +kernel) (by decide)).trans ?_
    refine (R_goto (off := 4) (t := 46) (by decide +kernel) (by decide +kernel)).trans ?_
    exact R_ireturn (by decide +kernel) (by decide +kernel)
theorem s48 {L : Nat} {mi : Nat → Nat → Int32} {ml : Nat → Nat → Int64} {d : Nat} {Q : Option Value → xM → Prop} {x0 x1 x2 : Int32} : Xm 48 [.int x0, .int x1, .int x2] (SH L, mi, ml, MR) d Q =
    if (x0 = 1) then (Q (some (.int ((x1 + (3 * x2)) - (x1 + (3 * x2)) / 10 * 10))) (SH L, mi, ml, MR)) else (if (x0 = 2) then (Q (some (.int ((x1 + x2) - (x1 + x2) / 10 * 10))) (SH L, mi, ml, MR)) else (if (x0 = 3) then (Q (some (.int ((x1 + (2 * x2)) - (x1 + (2 * x2)) / 10 * 10))) (SH L, mi, ml, MR)) else (if (x0 = 4) then (Q (some (.int (((x1 + (3 * x2)) + 1) - ((x1 + (3 * x2)) + 1) / 10 * 10))) (SH L, mi, ml, MR)) else (if (x0 = 5) then (Q (some (.int ((x1 + (x2 / 2)) - (x1 + (x2 / 2)) / 10 * 10))) (SH L, mi, ml, MR)) else (Q (some (.int ((x1 + x2) - (x1 + x2) / 10 * 10))) (SH L, mi, ml, MR)))))) := by
  rw [Xm_ent (n := 3) (loc := [.int x0, .int x1, .int x2]) (by decide +kernel) rfl]
  refine (R_pure0 (ins := .iload_n 0) (len := 1) (loc' := [.int x0, .int x1, .int x2]) (st' := [.int x0]) (by decide +kernel) (fun _ => rfl)).trans ?_
  refine (R_switch (df := 73) (lo := 1) (hi := 5) (offs := #[35, 73, 44, 53, 64]) (len := 35) (l0 := 1) (dt := 74) (ts := [36, 74, 45, 54, 65]) (by decide +kernel) (by decide +kernel)).trans ?_
  refine ite_congr rfl (fun c0 => ?_) (fun c0 => ?_)
  · refine (R_pure0 (ins := .iload_n 1) (len := 1) (loc' := [.int x0, .int x1, .int x2]) (st' := [.int x1]) (by decide +kernel) (fun _ => rfl)).trans ?_
    refine (R_iconst (n := 3) (v := 3) (by decide +kernel) (by decide +kernel)).trans ?_
    refine (R_pure0 (ins := .iload_n 2) (len := 1) (loc' := [.int x0, .int x1, .int x2]) (st' := [.int x2, .int 3, .int x1]) (by decide +kernel) (fun _ => rfl)).trans ?_
    refine (R_pure0 (ins := .imul) (len := 1) (loc' := [.int x0, .int x1, .int x2]) (st' := [.int (3 * x2), .int x1]) (by decide +kernel) (fun _ => rfl)).trans ?_
    refine (R_pure0 (ins := .iadd) (len := 1) (loc' := [.int x0, .int x1, .int x2]) (st' := [.int (x1 + (3 * x2))]) (by decide +kernel) (fun _ => rfl)).trans ?_
    refine (R_bipush (n := 10) (v := 10) (by decide +kernel) (by decide +kernel)).trans ?_
    refine (R_irem (x := (x1 + (3 * x2))) (y := 10) (by decide +kernel) (by decide)).trans ?_
    exact R_ireturn (by decide +kernel) (by decide +kernel)
  · refine ite_congr rfl (fun c1 => ?_) (fun c1 => ?_)
    · refine (R_pure0 (ins := .iload_n 1) (len := 1) (loc' := [.int x0, .int x1, .int x2]) (st' := [.int x1]) (by decide +kernel) (fun _ => rfl)).trans ?_
      refine (R_pure0 (ins := .iload_n 2) (len := 1) (loc' := [.int x0, .int x1, .int x2]) (st' := [.int x2, .int x1]) (by decide +kernel) (fun _ => rfl)).trans ?_
      refine (R_pure0 (ins := .iadd) (len := 1) (loc' := [.int x0, .int x1, .int x2]) (st' := [.int (x1 + x2)]) (by decide +kernel) (fun _ => rfl)).trans ?_
      refine (R_bipush (n := 10) (v := 10) (by decide +kernel) (by decide +kernel)).trans ?_
      refine (R_irem (x := (x1 + x2)) (y := 10) (by decide +kernel) (by decide)).trans ?_
      exact R_ireturn (by decide +kernel) (by decide +kernel)
    · refine ite_congr rfl (fun c2 => ?_) (fun c2 => ?_)
      · refine (R_pure0 (ins := .iload_n 1) (len := 1) (loc' := [.int x0, .int x1, .int x2]) (st' := [.int x1]) (by decide +kernel) (fun _ => rfl)).trans ?_
        refine (R_iconst (n := 2) (v := 2) (by decide +kernel) (by decide +kernel)).trans ?_
        refine (R_pure0 (ins := .iload_n 2) (len := 1) (loc' := [.int x0, .int x1, .int x2]) (st' := [.int x2, .int 2, .int x1]) (by decide +kernel) (fun _ => rfl)).trans ?_
        refine (R_pure0 (ins := .imul) (len := 1) (loc' := [.int x0, .int x1, .int x2]) (st' := [.int (2 * x2), .int x1]) (by decide +kernel) (fun _ => rfl)).trans ?_
        refine (R_pure0 (ins := .iadd) (len := 1) (loc' := [.int x0, .int x1, .int x2]) (st' := [.int (x1 + (2 * x2))]) (by decide +kernel) (fun _ => rfl)).trans ?_
        refine (R_bipush (n := 10) (v := 10) (by decide +kernel) (by decide +kernel)).trans ?_
        refine (R_irem (x := (x1 + (2 * x2))) (y := 10) (by decide +kernel) (by decide)).trans ?_
        exact R_ireturn (by decide +kernel) (by decide +kernel)
      · refine ite_congr rfl (fun c3 => ?_) (fun c3 => ?_)
        · refine (R_pure0 (ins := .iload_n 1) (len := 1) (loc' := [.int x0, .int x1, .int x2]) (st' := [.int x1]) (by decide +kernel) (fun _ => rfl)).trans ?_
          refine (R_iconst (n := 3) (v := 3) (by decide +kernel) (by decide +kernel)).trans ?_
          refine (R_pure0 (ins := .iload_n 2) (len := 1) (loc' := [.int x0, .int x1, .int x2]) (st' := [.int x2, .int 3, .int x1]) (by decide +kernel) (fun _ => rfl)).trans ?_
          refine (R_pure0 (ins := .imul) (len := 1) (loc' := [.int x0, .int x1, .int x2]) (st' := [.int (3 * x2), .int x1]) (by decide +kernel) (fun _ => rfl)).trans ?_
          refine (R_pure0 (ins := .iadd) (len := 1) (loc' := [.int x0, .int x1, .int x2]) (st' := [.int (x1 + (3 * x2))]) (by decide +kernel) (fun _ => rfl)).trans ?_
          refine (R_iconst (n := 1) (v := 1) (by decide +kernel) (by decide +kernel)).trans ?_
          refine (R_pure0 (ins := .iadd) (len := 1) (loc' := [.int x0, .int x1, .int x2]) (st' := [.int ((x1 + (3 * x2)) + 1)]) (by decide +kernel) (fun _ => rfl)).trans ?_
          refine (R_bipush (n := 10) (v := 10) (by decide +kernel) (by decide +kernel)).trans ?_
          refine (R_irem (x := ((x1 + (3 * x2)) + 1)) (y := 10) (by decide +kernel) (by decide)).trans ?_
          exact R_ireturn (by decide +kernel) (by decide +kernel)
        · refine ite_congr rfl (fun c4 => ?_) (fun c4 => ?_)
          · refine (R_pure0 (ins := .iload_n 1) (len := 1) (loc' := [.int x0, .int x1, .int x2]) (st' := [.int x1]) (by decide +kernel) (fun _ => rfl)).trans ?_
            refine (R_pure0 (ins := .iload_n 2) (len := 1) (loc' := [.int x0, .int x1, .int x2]) (st' := [.int x2, .int x1]) (by decide +kernel) (fun _ => rfl)).trans ?_
            refine (R_iconst (n := 2) (v := 2) (by decide +kernel) (by decide +kernel)).trans ?_
            refine (R_idiv (x := x2) (y := 2) (by decide +kernel) (by decide)).trans ?_
            refine (R_pure0 (ins := .iadd) (len := 1) (loc' := [.int x0, .int x1, .int x2]) (st' := [.int (x1 + (x2 / 2))]) (by decide +kernel) (fun _ => rfl)).trans ?_
            refine (R_bipush (n := 10) (v := 10) (by decide +kernel) (by decide +kernel)).trans ?_
            refine (R_irem (x := (x1 + (x2 / 2))) (y := 10) (by decide +kernel) (by decide)).trans ?_
            exact R_ireturn (by decide +kernel) (by decide +kernel)
          · refine (R_pure0 (ins := .iload_n 1) (len := 1) (loc' := [.int x0, .int x1, .int x2]) (st' := [.int x1]) (by decide +kernel) (fun _ => rfl)).trans ?_
            refine (R_pure0 (ins := .iload_n 2) (len := 1) (loc' := [.int x0, .int x1, .int x2]) (st' := [.int x2, .int x1]) (by decide +kernel) (fun _ => rfl)).trans ?_
            refine (R_pure0 (ins := .iadd) (len := 1) (loc' := [.int x0, .int x1, .int x2]) (st' := [.int (x1 + x2)]) (by decide +kernel) (fun _ => rfl)).trans ?_
            refine (R_bipush (n := 10) (v := 10) (by decide +kernel) (by decide +kernel)).trans ?_
            refine (R_irem (x := (x1 + x2)) (y := 10) (by decide +kernel) (by decide)).trans ?_
            exact R_ireturn (by decide +kernel) (by decide +kernel)
theorem s50 {L : Nat} {mi : Nat → Nat → Int32} {ml : Nat → Nat → Int64} {d : Nat} {Q : Option Value → xM → Prop} {x2 : Int32} {a : Nat} (hS_a : (SH L)[a]? = some (4, 7)) : Xm 50 [.ref a, .ref 35, .int x2] (SH L, mi, ml, MR) (d + 1) Q =
    Xm 67 [.ref 35, .int x2, .int 0] (SH L, mi, ml, MR) d (fun v μ' => X 50 7 [.ref a, .ref 35, .int x2] (v.toList ++ [.ref a]) μ' (d + 1) Q) := by
  rw [Xm_ent (n := 3) (loc := [.ref a, .ref 35, .int x2]) (by decide +kernel) rfl]
  refine (R_pure0 (ins := .aload_n 0) (len := 1) (loc' := [.ref a, .ref 35, .int x2]) (st' := [.ref a]) (by decide +kernel) (fun _ => rfl)).trans ?_
  refine (R_pure0 (ins := .aload_n 1) (len := 1) (loc' := [.ref a, .ref 35, .int x2]) (st' := [.ref 35, .ref a]) (by decide +kernel) (fun _ => rfl)).trans ?_
  refine (R_pure0 (ins := .iload_n 2) (len := 1) (loc' := [.ref a, .ref 35, .int x2]) (st' := [.int x2, .ref 35, .ref a]) (by decide +kernel) (fun _ => rfl)).trans ?_
  refine (R_iconst (n := 0) (v := 0) (by decide +kernel) (by decide +kernel)).trans ?_
  refine (R_virt (i := 9) (f := 67) (kd := 0) (na := 2) (ml := 3) (ci := 5) (n := 1) (b := 35) (As := [.int x2, .int 0]) (rest := [.ref a]) (by decide +kernel) (by decide +kernel) (by decide) (by decide +kernel) rfl (by decide +kernel) rfl rfl (by decide +kernel) (Nat.le_of_ble_eq_true rfl)).trans ?_
  rfl
theorem s50_7 {L : Nat} {mi : Nat → Nat → Int32} {ml : Nat → Nat → Int64} {d : Nat} {Q : Option Value → xM → Prop} {x2 y : Int32} {a : Nat} (hS_a : (SH L)[a]? = some (4, 7)) : X 50 7 [.ref a, .ref 35, .int x2] [.int y, .ref a] (SH L, mi, ml, MR) (d + 1) Q =
    Xm 67 [.ref 35, .int x2, .int 1] (SH L, (xw mi a 0 y), ml, MR) d (fun v μ' => X 50 17 [.ref a, .ref 35, .int x2] (v.toList ++ [.ref a]) μ' (d + 1) Q) := by
  refine (R_pi (i := 15) (ci := 4) (k := 0) (n := 7) (by decide +kernel) (by decide +kernel) (by decide) hS_a).trans ?_
  refine (R_pure0 (ins := .aload_n 0) (len := 1) (loc' := [.ref a, .ref 35, .int x2]) (st' := [.ref a]) (by decide +kernel) (fun _ => rfl)).trans ?_
  refine (R_pure0 (ins := .aload_n 1) (len := 1) (loc' := [.ref a, .ref 35, .int x2]) (st' := [.ref 35, .ref a]) (by decide +kernel) (fun _ => rfl)).trans ?_
  refine (R_pure0 (ins := .iload_n 2) (len := 1) (loc' := [.ref a, .ref 35, .int x2]) (st' := [.int x2, .ref 35, .ref a]) (by decide +kernel) (fun _ => rfl)).trans ?_
  refine (R_iconst (n := 1) (v := 1) (by decide +kernel) (by decide +kernel)).trans ?_
  refine (R_virt (i := 9) (f := 67) (kd := 0) (na := 2) (ml := 3) (ci := 5) (n := 1) (b := 35) (As := [.int x2, .int 1]) (rest := [.ref a]) (by decide +kernel) (by decide +kernel) (by decide) (by decide +kernel) rfl (by decide +kernel) rfl rfl (by decide +kernel) (Nat.le_of_ble_eq_true rfl)).trans ?_
  rfl
theorem s50_17 {L : Nat} {mi : Nat → Nat → Int32} {ml : Nat → Nat → Int64} {d : Nat} {Q : Option Value → xM → Prop} {x2 y : Int32} {a : Nat} (hS_a : (SH L)[a]? = some (4, 7)) : X 50 17 [.ref a, .ref 35, .int x2] [.int y, .ref a] (SH L, mi, ml, MR) (d + 1) Q =
    Xm 67 [.ref 35, .int x2, .int 2] (SH L, (xw mi a 1 y), ml, MR) d (fun v μ' => X 50 27 [.ref a, .ref 35, .int x2] (v.toList ++ [.ref a]) μ' (d + 1) Q) := by
  refine (R_pi (i := 21) (ci := 4) (k := 1) (n := 7) (by decide +kernel) (by decide +kernel) (by decide) hS_a).trans ?_
  refine (R_pure0 (ins := .aload_n 0) (len := 1) (loc' := [.ref a, .ref 35, .int x2]) (st' := [.ref a]) (by decide +kernel) (fun _ => rfl)).trans ?_
  refine (R_pure0 (ins := .aload_n 1) (len := 1) (loc' := [.ref a, .ref 35, .int x2]) (st' := [.ref 35, .ref a]) (by decide +kernel) (fun _ => rfl)).trans ?_
  refine (R_pure0 (ins := .iload_n 2) (len := 1) (loc' := [.ref a, .ref 35, .int x2]) (st' := [.int x2, .ref 35, .ref a]) (by decide +kernel) (fun _ => rfl)).trans ?_
  refine (R_iconst (n := 2) (v := 2) (by decide +kernel) (by decide +kernel)).trans ?_
  refine (R_virt (i := 9) (f := 67) (kd := 0) (na := 2) (ml := 3) (ci := 5) (n := 1) (b := 35) (As := [.int x2, .int 2]) (rest := [.ref a]) (by decide +kernel) (by decide +kernel) (by decide) (by decide +kernel) rfl (by decide +kernel) rfl rfl (by decide +kernel) (Nat.le_of_ble_eq_true rfl)).trans ?_
  rfl
theorem s50_27 {L : Nat} {mi : Nat → Nat → Int32} {ml : Nat → Nat → Int64} {d : Nat} {Q : Option Value → xM → Prop} {x2 y : Int32} {a : Nat} (hS_a : (SH L)[a]? = some (4, 7)) : X 50 27 [.ref a, .ref 35, .int x2] [.int y, .ref a] (SH L, mi, ml, MR) (d + 1) Q =
    Xm 67 [.ref 35, .int x2, .int 3] (SH L, (xw mi a 2 y), ml, MR) d (fun v μ' => X 50 37 [.ref a, .ref 35, .int x2] (v.toList ++ [.ref a]) μ' (d + 1) Q) := by
  refine (R_pi (i := 24) (ci := 4) (k := 2) (n := 7) (by decide +kernel) (by decide +kernel) (by decide) hS_a).trans ?_
  refine (R_pure0 (ins := .aload_n 0) (len := 1) (loc' := [.ref a, .ref 35, .int x2]) (st' := [.ref a]) (by decide +kernel) (fun _ => rfl)).trans ?_
  refine (R_pure0 (ins := .aload_n 1) (len := 1) (loc' := [.ref a, .ref 35, .int x2]) (st' := [.ref 35, .ref a]) (by decide +kernel) (fun _ => rfl)).trans ?_
  refine (R_pure0 (ins := .iload_n 2) (len := 1) (loc' := [.ref a, .ref 35, .int x2]) (st' := [.int x2, .ref 35, .ref a]) (by decide +kernel) (fun _ => rfl)).trans ?_
  refine (R_iconst (n := 3) (v := 3) (by decide +kernel) (by decide +kernel)).trans ?_
  refine (R_virt (i := 9) (f := 67) (kd := 0) (na := 2) (ml := 3) (ci := 5) (n := 1) (b := 35) (As := [.int x2, .int 3]) (rest := [.ref a]) (by decide +kernel) (by decide +kernel) (by decide) (by decide +kernel) rfl (by decide +kernel) rfl rfl (by decide +kernel) (Nat.le_of_ble_eq_true rfl)).trans ?_
  rfl
theorem s50_37 {L : Nat} {mi : Nat → Nat → Int32} {ml : Nat → Nat → Int64} {d : Nat} {Q : Option Value → xM → Prop} {x2 y : Int32} {a : Nat} (hS_a : (SH L)[a]? = some (4, 7)) : X 50 37 [.ref a, .ref 35, .int x2] [.int y, .ref a] (SH L, mi, ml, MR) (d + 1) Q =
    Xm 51 [.ref a] (SH L, (xw mi a 3 y), ml, MR) d (fun v μ' => X 50 44 [.ref a, .ref 35, .int x2] (v.toList ++ []) μ' (d + 1) Q) := by
  refine (R_pi (i := 27) (ci := 4) (k := 3) (n := 7) (by decide +kernel) (by decide +kernel) (by decide) hS_a).trans ?_
  refine (R_pure0 (ins := .aload_n 0) (len := 1) (loc' := [.ref a, .ref 35, .int x2]) (st' := [.ref a]) (by decide +kernel) (fun _ => rfl)).trans ?_
  refine (R_virt (i := 30) (f := 51) (kd := 0) (na := 0) (ml := 1) (ci := 4) (n := 7) (b := a) (As := []) (rest := []) (by decide +kernel) (by decide +kernel) (by decide) (by decide +kernel) rfl (by decide +kernel) hS_a rfl (by decide +kernel) (Nat.le_of_ble_eq_true rfl)).trans ?_
  rfl
theorem s50_44 {L : Nat} {mi : Nat → Nat → Int32} {ml : Nat → Nat → Int64} {d : Nat} {Q : Option Value → xM → Prop} {x2 : Int32} {a : Nat} (hS_a : (SH L)[a]? = some (4, 7)) : X 50 44 [.ref a, .ref 35, .int x2] [] (SH L, mi, ml, MR) d Q =
    Q none (SH L, mi, ml, MR) := by
  exact R_return (by decide +kernel) (by decide +kernel)
theorem s51 {L : Nat} {mi : Nat → Nat → Int32} {ml : Nat → Nat → Int64} {d : Nat} {Q : Option Value → xM → Prop} {a : Nat} (hS_a : (SH L)[a]? = some (4, 7)) : Xm 51 [.ref a] (SH L, mi, ml, MR) d Q =
    Q none (SH L, (xw (xw (xw mi a 4 0) a 5 0) a 6 0), ml, MR) := by
  rw [Xm_ent (n := 1) (loc := [.ref a]) (by decide +kernel) rfl]
  refine (R_pure0 (ins := .aload_n 0) (len := 1) (loc' := [.ref a]) (st' := [.ref a]) (by decide +kernel) (fun _ => rfl)).trans ?_
  refine (R_iconst (n := 0) (v := 0) (by decide +kernel) (by decide +kernel)).trans ?_
  refine (R_pi (i := 33) (ci := 4) (k := 4) (n := 7) (by decide +kernel) (by decide +kernel) (by decide) hS_a).trans ?_
  refine (R_pure0 (ins := .aload_n 0) (len := 1) (loc' := [.ref a]) (st' := [.ref a]) (by decide +kernel) (fun _ => rfl)).trans ?_
  refine (R_iconst (n := 0) (v := 0) (by decide +kernel) (by decide +kernel)).trans ?_
  refine (R_pi (i := 36) (ci := 4) (k := 5) (n := 7) (by decide +kernel) (by decide +kernel) (by decide) hS_a).trans ?_
  refine (R_pure0 (ins := .aload_n 0) (len := 1) (loc' := [.ref a]) (st' := [.ref a]) (by decide +kernel) (fun _ => rfl)).trans ?_
  refine (R_iconst (n := 0) (v := 0) (by decide +kernel) (by decide +kernel)).trans ?_
  refine (R_pz (i := 39) (ci := 4) (k := 6) (n := 7) (by decide +kernel) (by decide +kernel) (by decide) (by decide) hS_a).trans ?_
  exact R_return (by decide +kernel) (by decide +kernel)
theorem s52 {L : Nat} {mi : Nat → Nat → Int32} {ml : Nat → Nat → Int64} {d : Nat} {Q : Option Value → xM → Prop} {x1 : Int32} {a : Nat} (hS_a : (SH L)[a]? = some (4, 7)) : Xm 52 [.ref a, .int x1] (SH L, mi, ml, MR) d Q =
    Q (some (.int (if 0 < ((x1 + (mi a 4)) - (mi a 1)) then ((x1 + (mi a 4)) - (mi a 1)) else 0))) (SH L, mi, ml, MR) := by
  rw [Xm_ent (n := 2) (loc := [.ref a, .int x1]) (by decide +kernel) rfl]
  refine (R_iconst (n := 0) (v := 0) (by decide +kernel) (by decide +kernel)).trans ?_
  refine (R_pure0 (ins := .iload_n 1) (len := 1) (loc' := [.ref a, .int x1]) (st' := [.int x1, .int 0]) (by decide +kernel) (fun _ => rfl)).trans ?_
  refine (R_pure0 (ins := .aload_n 0) (len := 1) (loc' := [.ref a, .int x1]) (st' := [.ref a, .int x1, .int 0]) (by decide +kernel) (fun _ => rfl)).trans ?_
  refine (R_gi (i := 33) (ci := 4) (k := 4) (n := 7) (by decide +kernel) (by decide +kernel) (by decide) hS_a).trans ?_
  refine (R_pure0 (ins := .iadd) (len := 1) (loc' := [.ref a, .int x1]) (st' := [.int (x1 + (mi a 4)), .int 0]) (by decide +kernel) (fun _ => rfl)).trans ?_
  refine (R_pure0 (ins := .aload_n 0) (len := 1) (loc' := [.ref a, .int x1]) (st' := [.ref a, .int (x1 + (mi a 4)), .int 0]) (by decide +kernel) (fun _ => rfl)).trans ?_
  refine (R_gi (i := 21) (ci := 4) (k := 1) (n := 7) (by decide +kernel) (by decide +kernel) (by decide) hS_a).trans ?_
  refine (R_pure0 (ins := .isub) (len := 1) (loc' := [.ref a, .int x1]) (st' := [.int ((x1 + (mi a 4)) - (mi a 1)), .int 0]) (by decide +kernel) (fun _ => rfl)).trans ?_
  refine (R_max (i := 43) (f := 0) (x := 0) (y := ((x1 + (mi a 4)) - (mi a 1))) (by decide +kernel) (by decide +kernel) rfl).trans ?_
  exact R_ireturn (by decide +kernel) (by decide +kernel)
theorem s53 {L : Nat} {mi : Nat → Nat → Int32} {ml : Nat → Nat → Int64} {d : Nat} {Q : Option Value → xM → Prop} {x1 : Int32} {a : Nat} (hS_a : (SH L)[a]? = some (4, 7)) : Xm 53 [.ref a, .int x1] (SH L, mi, ml, MR) (d + 1) Q =
    Xm 48 [.int (mi a 0), .int (mi a 3), .int x1] (SH L, mi, ml, MR) d (fun v μ' => X 53 12 [.ref a, .int x1] (v.toList ++ []) μ' (d + 1) Q) := by
  rw [Xm_ent (n := 2) (loc := [.ref a, .int x1]) (by decide +kernel) rfl]
  refine (R_pure0 (ins := .aload_n 0) (len := 1) (loc' := [.ref a, .int x1]) (st' := [.ref a]) (by decide +kernel) (fun _ => rfl)).trans ?_
  refine (R_gi (i := 15) (ci := 4) (k := 0) (n := 7) (by decide +kernel) (by decide +kernel) (by decide) hS_a).trans ?_
  refine (R_pure0 (ins := .aload_n 0) (len := 1) (loc' := [.ref a, .int x1]) (st' := [.ref a, .int (mi a 0)]) (by decide +kernel) (fun _ => rfl)).trans ?_
  refine (R_gi (i := 27) (ci := 4) (k := 3) (n := 7) (by decide +kernel) (by decide +kernel) (by decide) hS_a).trans ?_
  refine (R_pure0 (ins := .iload_n 1) (len := 1) (loc' := [.ref a, .int x1]) (st' := [.int x1, .int (mi a 3), .int (mi a 0)]) (by decide +kernel) (fun _ => rfl)).trans ?_
  refine (R_static (i := 48) (f := 48) (kd := 2) (na := 3) (ml := 3) (As := [.int (mi a 0), .int (mi a 3), .int x1]) (rest := []) (by decide +kernel) (by decide +kernel) (by decide) (by decide +kernel) rfl rfl (by decide +kernel) (Nat.le_of_ble_eq_true rfl)).trans ?_
  rfl
theorem s53_12 {L : Nat} {mi : Nat → Nat → Int32} {ml : Nat → Nat → Int64} {d : Nat} {Q : Option Value → xM → Prop} {x1 y : Int32} {a : Nat} (hS_a : (SH L)[a]? = some (4, 7)) : X 53 12 [.ref a, .int x1] [.int y] (SH L, mi, ml, MR) d Q =
    Q (some (.int y)) (SH L, mi, ml, MR) := by
  exact R_ireturn (by decide +kernel) (by decide +kernel)
theorem s54 {L : Nat} {mi : Nat → Nat → Int32} {ml : Nat → Nat → Int64} {d : Nat} {Q : Option Value → xM → Prop} {x1 : Int32} {a : Nat} (hS_a : (SH L)[a]? = some (4, 7)) : Xm 54 [.ref a, .int x1] (SH L, mi, ml, MR) (d + 1) Q =
    Xm 52 [.ref a, .int x1] (SH L, mi, ml, MR) d (fun v μ' => X 54 9 [.ref a, .int x1] (v.toList ++ [.int (mi a 0)]) μ' (d + 1) Q) := by
  rw [Xm_ent (n := 2) (loc := [.ref a, .int x1]) (by decide +kernel) rfl]
  refine (R_pure0 (ins := .aload_n 0) (len := 1) (loc' := [.ref a, .int x1]) (st' := [.ref a]) (by decide +kernel) (fun _ => rfl)).trans ?_
  refine (R_gi (i := 15) (ci := 4) (k := 0) (n := 7) (by decide +kernel) (by decide +kernel) (by decide) hS_a).trans ?_
  refine (R_pure0 (ins := .aload_n 0) (len := 1) (loc' := [.ref a, .int x1]) (st' := [.ref a, .int (mi a 0)]) (by decide +kernel) (fun _ => rfl)).trans ?_
  refine (R_pure0 (ins := .iload_n 1) (len := 1) (loc' := [.ref a, .int x1]) (st' := [.int x1, .ref a, .int (mi a 0)]) (by decide +kernel) (fun _ => rfl)).trans ?_
  refine (R_virt (i := 54) (f := 52) (kd := 0) (na := 1) (ml := 2) (ci := 4) (n := 7) (b := a) (As := [.int x1]) (rest := [.int (mi a 0)]) (by decide +kernel) (by decide +kernel) (by decide) (by decide +kernel) rfl (by decide +kernel) hS_a rfl (by decide +kernel) (Nat.le_of_ble_eq_true rfl)).trans ?_
  rfl
theorem s54_9 {L : Nat} {mi : Nat → Nat → Int32} {ml : Nat → Nat → Int64} {d : Nat} {Q : Option Value → xM → Prop} {x1 y z0 : Int32} {a : Nat} (hS_a : (SH L)[a]? = some (4, 7)) : X 54 9 [.ref a, .int x1] [.int y, .int z0] (SH L, mi, ml, MR) (d + 1) Q =
    Xm 47 [.int z0, .int y, .int (mi a 2)] (SH L, mi, ml, MR) d (fun v μ' => X 54 16 [.ref a, .int x1] (v.toList ++ []) μ' (d + 1) Q) := by
  refine (R_pure0 (ins := .aload_n 0) (len := 1) (loc' := [.ref a, .int x1]) (st' := [.ref a, .int y, .int z0]) (by decide +kernel) (fun _ => rfl)).trans ?_
  refine (R_gi (i := 24) (ci := 4) (k := 2) (n := 7) (by decide +kernel) (by decide +kernel) (by decide) hS_a).trans ?_
  refine (R_static (i := 58) (f := 47) (kd := 2) (na := 3) (ml := 4) (As := [.int z0, .int y, .int (mi a 2)]) (rest := []) (by decide +kernel) (by decide +kernel) (by decide) (by decide +kernel) rfl rfl (by decide +kernel) (Nat.le_of_ble_eq_true rfl)).trans ?_
  rfl
theorem s54_16 {L : Nat} {mi : Nat → Nat → Int32} {ml : Nat → Nat → Int64} {d : Nat} {Q : Option Value → xM → Prop} {x1 y : Int32} {a : Nat} (hS_a : (SH L)[a]? = some (4, 7)) : X 54 16 [.ref a, .int x1] [.int y] (SH L, mi, ml, MR) d Q =
    Q (some (.int y)) (SH L, mi, ml, MR) := by
  exact R_ireturn (by decide +kernel) (by decide +kernel)
theorem s55 {L : Nat} {mi : Nat → Nat → Int32} {ml : Nat → Nat → Int64} {d : Nat} {Q : Option Value → xM → Prop} {x1 : Int32} {a : Nat} (hS_a : (SH L)[a]? = some (4, 7)) : Xm 55 [.ref a, .int x1] (SH L, mi, ml, MR) d Q =
    if ((mi a 0) = 3) then (if ((x1 - x1 / 2 * 2) = 0) then (Q (some (.int 1)) (SH L, mi, ml, MR)) else (Q (some (.int 0)) (SH L, mi, ml, MR))) else (Q (some (.int 1)) (SH L, mi, ml, MR)) := by
  rw [Xm_ent (n := 2) (loc := [.ref a, .int x1]) (by decide +kernel) rfl]
  refine (R_pure0 (ins := .aload_n 0) (len := 1) (loc' := [.ref a, .int x1]) (st' := [.ref a]) (by decide +kernel) (fun _ => rfl)).trans ?_
  refine (R_gi (i := 15) (ci := 4) (k := 0) (n := 7) (by decide +kernel) (by decide +kernel) (by decide) hS_a).trans ?_
  refine (R_iconst (n := 3) (v := 3) (by decide +kernel) (by decide +kernel)).trans ?_
  refine (R_icmp_ne (off := 9) (t := 14) (by decide +kernel) (by decide +kernel)).trans (ite_congr rfl (fun c0 => ?_) (fun c0 => ?_))
  · refine (R_pure0 (ins := .iload_n 1) (len := 1) (loc' := [.ref a, .int x1]) (st' := [.int x1]) (by decide +kernel) (fun _ => rfl)).trans ?_
    refine (R_iconst (n := 2) (v := 2) (by decide +kernel) (by decide +kernel)).trans ?_
    refine (R_irem (x := x1) (y := 2) (by decide +kernel) (by decide)).trans ?_
    refine (R_if_ne (off := 7) (t := 18) (by decide +kernel) (by decide +kernel)).trans (ite_congr rfl (fun c1 => ?_) (fun c1 => ?_))
    · refine (R_iconst (n := 1) (v := 1) (by decide +kernel) (by decide +kernel)).trans ?_
      refine (R_goto (off := 4) (t := 19) (by decide +kernel) (by decide +kernel)).trans ?_
      exact R_zreturn (by decide +kernel) (by decide +kernel) (by decide)
    · refine (R_iconst (n := 0) (v := 0) (by decide +kernel) (by decide +kernel)).trans ?_
      exact R_zreturn (by decide +kernel) (by decide +kernel) (by decide)
  · refine (R_iconst (n := 1) (v := 1) (by decide +kernel) (by decide +kernel)).trans ?_
    refine (R_goto (off := 4) (t := 19) (by decide +kernel) (by decide +kernel)).trans ?_
    exact R_zreturn (by decide +kernel) (by decide +kernel) (by decide)
theorem s56 {L : Nat} {mi : Nat → Nat → Int32} {ml : Nat → Nat → Int64} {d : Nat} {Q : Option Value → xM → Prop} {a : Nat} (hS_a : (SH L)[a]? = some (4, 7)) : Xm 56 [.ref a] (SH L, mi, ml, MR) d Q =
    if ((mi a 6) = 0) then (if ((mi a 4) < 9) then (Q (some (.int 1)) (SH L, mi, ml, MR)) else (Q (some (.int 0)) (SH L, mi, ml, MR))) else (Q (some (.int 0)) (SH L, mi, ml, MR)) := by
  rw [Xm_ent (n := 1) (loc := [.ref a]) (by decide +kernel) rfl]
  refine (R_pure0 (ins := .aload_n 0) (len := 1) (loc' := [.ref a]) (st' := [.ref a]) (by decide +kernel) (fun _ => rfl)).trans ?_
  refine (R_gi (i := 39) (ci := 4) (k := 6) (n := 7) (by decide +kernel) (by decide +kernel) (by decide) hS_a).trans ?_
  refine (R_if_ne (off := 16) (t := 20) (by decide +kernel) (by decide +kernel)).trans (ite_congr rfl (fun c0 => ?_) (fun c0 => ?_))
  · refine (R_pure0 (ins := .aload_n 0) (len := 1) (loc' := [.ref a]) (st' := [.ref a]) (by decide +kernel) (fun _ => rfl)).trans ?_
    refine (R_gi (i := 33) (ci := 4) (k := 4) (n := 7) (by decide +kernel) (by decide +kernel) (by decide) hS_a).trans ?_
    refine (R_bipush (n := 9) (v := 9) (by decide +kernel) (by decide +kernel)).trans ?_
    refine (R_icmp_ge (off := 7) (t := 20) (by decide +kernel) (by decide +kernel)).trans (ite_congr rfl (fun c1 => ?_) (fun c1 => ?_))
    · refine (R_iconst (n := 1) (v := 1) (by decide +kernel) (by decide +kernel)).trans ?_
      refine (R_goto (off := 4) (t := 21) (by decide +kernel) (by decide +kernel)).trans ?_
      exact R_zreturn (by decide +kernel) (by decide +kernel) (by decide)
    · refine (R_iconst (n := 0) (v := 0) (by decide +kernel) (by decide +kernel)).trans ?_
      exact R_zreturn (by decide +kernel) (by decide +kernel) (by decide)
  · refine (R_iconst (n := 0) (v := 0) (by decide +kernel) (by decide +kernel)).trans ?_
    exact R_zreturn (by decide +kernel) (by decide +kernel) (by decide)
theorem s57 {L : Nat} {mi : Nat → Nat → Int32} {ml : Nat → Nat → Int64} {d : Nat} {Q : Option Value → xM → Prop} {x1 : Int32} {a : Nat} (hS_a : (SH L)[a]? = some (4, 7)) : Xm 57 [.ref a, .int x1] (SH L, mi, ml, MR) (d + 1) Q =
    if ((mi a 6) = 0) then (Xm 55 [.ref a, .int x1] (SH L, mi, ml, MR) d (fun v μ' => X 57 12 [.ref a, .int x1] (v.toList ++ []) μ' (d + 1) Q)) else (Q (some (.int 0)) (SH L, mi, ml, MR)) := by
  rw [Xm_ent (n := 2) (loc := [.ref a, .int x1]) (by decide +kernel) rfl]
  refine (R_pure0 (ins := .aload_n 0) (len := 1) (loc' := [.ref a, .int x1]) (st' := [.ref a]) (by decide +kernel) (fun _ => rfl)).trans ?_
  refine (R_gi (i := 39) (ci := 4) (k := 6) (n := 7) (by decide +kernel) (by decide +kernel) (by decide) hS_a).trans ?_
  refine (R_if_ne (off := 11) (t := 15) (by decide +kernel) (by decide +kernel)).trans (ite_congr rfl (fun c0 => ?_) (fun c0 => ?_))
  · refine (R_pure0 (ins := .aload_n 0) (len := 1) (loc' := [.ref a, .int x1]) (st' := [.ref a]) (by decide +kernel) (fun _ => rfl)).trans ?_
    refine (R_pure0 (ins := .iload_n 1) (len := 1) (loc' := [.ref a, .int x1]) (st' := [.int x1, .ref a]) (by decide +kernel) (fun _ => rfl)).trans ?_
    refine (R_virt (i := 61) (f := 55) (kd := 0) (na := 1) (ml := 2) (ci := 4) (n := 7) (b := a) (As := [.int x1]) (rest := []) (by decide +kernel) (by decide +kernel) (by decide) (by decide +kernel) rfl (by decide +kernel) hS_a rfl (by decide +kernel) (Nat.le_of_ble_eq_true rfl)).trans ?_
    rfl
  · refine (R_iconst (n := 0) (v := 0) (by decide +kernel) (by decide +kernel)).trans ?_
    refine (R_goto (off := 17) (t := 33) (by decide +kernel) (by decide +kernel)).trans ?_
    exact R_ireturn (by decide +kernel) (by decide +kernel)
theorem s57_12 {L : Nat} {mi : Nat → Nat → Int32} {ml : Nat → Nat → Int64} {d : Nat} {Q : Option Value → xM → Prop} {x1 y : Int32} {a : Nat} (hS_a : (SH L)[a]? = some (4, 7)) : X 57 12 [.ref a, .int x1] [.int y] (SH L, mi, ml, MR) (d + 1) Q =
    if (y = 0) then (Q (some (.int 0)) (SH L, mi, ml, MR)) else (Xm 54 [.ref a, .int x1] (SH L, mi, ml, MR) d (fun v μ' => X 57 25 [.ref a, .int x1] (v.toList ++ [.int 0]) μ' (d + 1) Q)) := by
  refine (R_if_ne (off := 7) (t := 19) (by decide +kernel) (by decide +kernel)).trans (ite_congr rfl (fun c0 => ?_) (fun c0 => ?_))
  · refine (R_iconst (n := 0) (v := 0) (by decide +kernel) (by decide +kernel)).trans ?_
    refine (R_goto (off := 17) (t := 33) (by decide +kernel) (by decide +kernel)).trans ?_
    exact R_ireturn (by decide +kernel) (by decide +kernel)
  · refine (R_iconst (n := 0) (v := 0) (by decide +kernel) (by decide +kernel)).trans ?_
    refine (R_pure0 (ins := .aload_n 0) (len := 1) (loc' := [.ref a, .int x1]) (st' := [.ref a, .int 0]) (by decide +kernel) (fun _ => rfl)).trans ?_
    refine (R_pure0 (ins := .iload_n 1) (len := 1) (loc' := [.ref a, .int x1]) (st' := [.int x1, .ref a, .int 0]) (by decide +kernel) (fun _ => rfl)).trans ?_
    refine (R_virt (i := 65) (f := 54) (kd := 0) (na := 1) (ml := 2) (ci := 4) (n := 7) (b := a) (As := [.int x1]) (rest := [.int 0]) (by decide +kernel) (by decide +kernel) (by decide) (by decide +kernel) rfl (by decide +kernel) hS_a rfl (by decide +kernel) (Nat.le_of_ble_eq_true rfl)).trans ?_
    rfl
theorem s57_25 {L : Nat} {mi : Nat → Nat → Int32} {ml : Nat → Nat → Int64} {d : Nat} {Q : Option Value → xM → Prop} {x1 y z0 : Int32} {a : Nat} (hS_a : (SH L)[a]? = some (4, 7)) : X 57 25 [.ref a, .int x1] [.int y, .int z0] (SH L, mi, ml, MR) d Q =
    Q (some (.int (if z0 < (y - (mi a 5)) then (y - (mi a 5)) else z0))) (SH L, mi, ml, MR) := by
  refine (R_pure0 (ins := .aload_n 0) (len := 1) (loc' := [.ref a, .int x1]) (st' := [.ref a, .int y, .int z0]) (by decide +kernel) (fun _ => rfl)).trans ?_
  refine (R_gi (i := 36) (ci := 4) (k := 5) (n := 7) (by decide +kernel) (by decide +kernel) (by decide) hS_a).trans ?_
  refine (R_pure0 (ins := .isub) (len := 1) (loc' := [.ref a, .int x1]) (st' := [.int (y - (mi a 5)), .int z0]) (by decide +kernel) (fun _ => rfl)).trans ?_
  refine (R_max (i := 43) (f := 0) (x := z0) (y := (y - (mi a 5))) (by decide +kernel) (by decide +kernel) rfl).trans ?_
  exact R_ireturn (by decide +kernel) (by decide +kernel)
theorem s58 {L : Nat} {mi : Nat → Nat → Int32} {ml : Nat → Nat → Int64} {d : Nat} {Q : Option Value → xM → Prop} {x1 x2 : Int32} {a : Nat} (hS_a : (SH L)[a]? = some (4, 7)) : Xm 58 [.ref a, .int x1, .int x2] (SH L, mi, ml, MR) (d + 1) Q =
    Xm 57 [.ref a, .int x2] (SH L, mi, ml, MR) d (fun v μ' => X 58 5 [.ref a, .int x1, .int x2, xmk, xmk] (v.toList ++ []) μ' (d + 1) Q) := by
  rw [Xm_ent (n := 5) (loc := [.ref a, .int x1, .int x2, xmk, xmk]) (by decide +kernel) rfl]
  refine (R_pure0 (ins := .aload_n 0) (len := 1) (loc' := [.ref a, .int x1, .int x2, xmk, xmk]) (st' := [.ref a]) (by decide +kernel) (fun _ => rfl)).trans ?_
  refine (R_pure0 (ins := .iload_n 2) (len := 1) (loc' := [.ref a, .int x1, .int x2, xmk, xmk]) (st' := [.int x2, .ref a]) (by decide +kernel) (fun _ => rfl)).trans ?_
  refine (R_virt (i := 67) (f := 57) (kd := 0) (na := 1) (ml := 2) (ci := 4) (n := 7) (b := a) (As := [.int x2]) (rest := []) (by decide +kernel) (by decide +kernel) (by decide) (by decide +kernel) rfl (by decide +kernel) hS_a rfl (by decide +kernel) (Nat.le_of_ble_eq_true rfl)).trans ?_
  rfl
theorem s58_5 {L : Nat} {mi : Nat → Nat → Int32} {ml : Nat → Nat → Int64} {d : Nat} {Q : Option Value → xM → Prop} {x1 x2 y : Int32} {a : Nat} (hS_a : (SH L)[a]? = some (4, 7)) : X 58 5 [.ref a, .int x1, .int x2, xmk, xmk] [.int y] (SH L, mi, ml, MR) d Q =
    X 58 9 [.ref a, .int x1, .int x2, .int y, .int 0] [] (SH L, mi, ml, MR) d Q := by
  refine (R_pure0 (ins := .istore_n 3) (len := 1) (loc' := [.ref a, .int x1, .int x2, .int y, xmk]) (st' := []) (by decide +kernel) (fun _ => rfl)).trans ?_
  refine (R_iconst (n := 0) (v := 0) (by decide +kernel) (by decide +kernel)).trans ?_
  refine (R_pure0 (ins := .istore 4) (len := 2) (loc' := [.ref a, .int x1, .int x2, .int y, .int 0]) (st' := []) (by decide +kernel) (fun _ => rfl)).trans ?_
  rfl
theorem s58_9 {L : Nat} {mi : Nat → Nat → Int32} {ml : Nat → Nat → Int64} {d : Nat} {Q : Option Value → xM → Prop} {x1 x2 x3 x4 : Int32} {a : Nat} (hS_a : (SH L)[a]? = some (4, 7)) : X 58 9 [.ref a, .int x1, .int x2, .int x3, .int x4] [] (SH L, mi, ml, MR) (d + 1) Q =
    if (x4 < x3) then (Xm 53 [.ref a, .int ((mi a 5) + x4)] (SH L, mi, ml, MR) d (fun v μ' => X 58 26 [.ref a, .int x1, .int x2, .int x3, .int x4] (v.toList ++ []) μ' (d + 1) Q)) else (Q (some (.int x4)) (SH L, mi, ml, MR)) := by
  refine (R_pure0 (ins := .iload 4) (len := 2) (loc' := [.ref a, .int x1, .int x2, .int x3, .int x4]) (st' := [.int x4]) (by decide +kernel) (fun _ => rfl)).trans ?_
  refine (R_pure0 (ins := .iload_n 3) (len := 1) (loc' := [.ref a, .int x1, .int x2, .int x3, .int x4]) (st' := [.int x3, .int x4]) (by decide +kernel) (fun _ => rfl)).trans ?_
  refine (R_icmp_ge (off := 24) (t := 36) (by decide +kernel) (by decide +kernel)).trans (ite_congr rfl (fun c0 => ?_) (fun c0 => ?_))
  · refine (R_pure0 (ins := .aload_n 0) (len := 1) (loc' := [.ref a, .int x1, .int x2, .int x3, .int x4]) (st' := [.ref a]) (by decide +kernel) (fun _ => rfl)).trans ?_
    refine (R_pure0 (ins := .aload_n 0) (len := 1) (loc' := [.ref a, .int x1, .int x2, .int x3, .int x4]) (st' := [.ref a, .ref a]) (by decide +kernel) (fun _ => rfl)).trans ?_
    refine (R_gi (i := 36) (ci := 4) (k := 5) (n := 7) (by decide +kernel) (by decide +kernel) (by decide) hS_a).trans ?_
    refine (R_pure0 (ins := .iload 4) (len := 2) (loc' := [.ref a, .int x1, .int x2, .int x3, .int x4]) (st' := [.int x4, .int (mi a 5), .ref a]) (by decide +kernel) (fun _ => rfl)).trans ?_
    refine (R_pure0 (ins := .iadd) (len := 1) (loc' := [.ref a, .int x1, .int x2, .int x3, .int x4]) (st' := [.int ((mi a 5) + x4), .ref a]) (by decide +kernel) (fun _ => rfl)).trans ?_
    refine (R_virt (i := 70) (f := 53) (kd := 0) (na := 1) (ml := 2) (ci := 4) (n := 7) (b := a) (As := [.int ((mi a 5) + x4)]) (rest := []) (by decide +kernel) (by decide +kernel) (by decide) (by decide +kernel) rfl (by decide +kernel) hS_a rfl (by decide +kernel) (Nat.le_of_ble_eq_true rfl)).trans ?_
    rfl
  · refine (R_pure0 (ins := .iload 4) (len := 2) (loc' := [.ref a, .int x1, .int x2, .int x3, .int x4]) (st' := [.int x4]) (by decide +kernel) (fun _ => rfl)).trans ?_
    exact R_ireturn (by decide +kernel) (by decide +kernel)
theorem s58_26 {L : Nat} {mi : Nat → Nat → Int32} {ml : Nat → Nat → Int64} {d : Nat} {Q : Option Value → xM → Prop} {x1 x2 x3 x4 y : Int32} {a : Nat} (hS_a : (SH L)[a]? = some (4, 7)) : X 58 26 [.ref a, .int x1, .int x2, .int x3, .int x4] [.int y] (SH L, mi, ml, MR) d Q =
    if (y = x1) then (X 58 9 [.ref a, .int x1, .int x2, .int x3, .int (x4 + 1)] [] (SH L, mi, ml, MR) d Q) else (Q (some (.int x4)) (SH L, mi, ml, MR)) := by
  refine (R_pure0 (ins := .iload_n 1) (len := 1) (loc' := [.ref a, .int x1, .int x2, .int x3, .int x4]) (st' := [.int x1, .int y]) (by decide +kernel) (fun _ => rfl)).trans ?_
  refine (R_icmp_ne (off := 9) (t := 36) (by decide +kernel) (by decide +kernel)).trans (ite_congr rfl (fun c0 => ?_) (fun c0 => ?_))
  · refine (R_iinc (k := 4) (n := 1) (x := x4) (v := (x4 + 1)) (loc' := [.ref a, .int x1, .int x2, .int x3, .int (x4 + 1)]) (by decide +kernel) rfl rfl rfl).trans ?_
    refine (R_goto (off := (-24)) (t := 9) (by decide +kernel) (by decide +kernel)).trans ?_
    rfl
  · refine (R_pure0 (ins := .iload 4) (len := 2) (loc' := [.ref a, .int x1, .int x2, .int x3, .int x4]) (st' := [.int x4]) (by decide +kernel) (fun _ => rfl)).trans ?_
    exact R_ireturn (by decide +kernel) (by decide +kernel)
theorem s59 {L : Nat} {mi : Nat → Nat → Int32} {ml : Nat → Nat → Int64} {d : Nat} {Q : Option Value → xM → Prop} {x1 x2 x3 x4 : Int32} {a : Nat} (hS_a : (SH L)[a]? = some (4, 7)) : Xm 59 [.ref a, .int x1, .int x2, .int x3, .int x4] (SH L, mi, ml, MR) d Q =
    X 59 3 [.ref a, .int x1, .int x2, .int x3, .int x4, .int 0, xmk] [] (SH L, mi, ml, MR) d Q := by
  rw [Xm_ent (n := 7) (loc := [.ref a, .int x1, .int x2, .int x3, .int x4, xmk, xmk]) (by decide +kernel) rfl]
  refine (R_iconst (n := 0) (v := 0) (by decide +kernel) (by decide +kernel)).trans ?_
  refine (R_pure0 (ins := .istore 5) (len := 2) (loc' := [.ref a, .int x1, .int x2, .int x3, .int x4, .int 0, xmk]) (st' := []) (by decide +kernel) (fun _ => rfl)).trans ?_
  rfl
theorem s59_3 {L : Nat} {mi : Nat → Nat → Int32} {ml : Nat → Nat → Int64} {d : Nat} {Q : Option Value → xM → Prop} {x1 x2 x3 x4 x5 : Int32} {a : Nat} (hS_a : (SH L)[a]? = some (4, 7)) : X 59 3 [.ref a, .int x1, .int x2, .int x3, .int x4, .int x5, xmk] [] (SH L, mi, ml, MR) (d + 1) Q =
    if ((mi a 6) = 0) then (if (x4 < x5) then (Q (some (.int (-9))) (SH L, mi, ml, MR)) else (Xm 55 [.ref a, .int (x3 + x5)] (SH L, mi, ml, MR) d (fun v μ' => X 59 42 [.ref a, .int x1, .int x2, .int x3, .int x4, .int x5, .int (if 0 < (((x3 + x5) + x2) - (mi a 1)) then (((x3 + x5) + x2) - (mi a 1)) else 0)] (v.toList ++ []) μ' (d + 1) Q))) else (Q (some (.int (-9))) (SH L, mi, ml, MR)) := by
  refine (R_pure0 (ins := .aload_n 0) (len := 1) (loc' := [.ref a, .int x1, .int x2, .int x3, .int x4, .int x5, xmk]) (st' := [.ref a]) (by decide +kernel) (fun _ => rfl)).trans ?_
  refine (R_gi (i := 39) (ci := 4) (k := 6) (n := 7) (by decide +kernel) (by decide +kernel) (by decide) hS_a).trans ?_
  refine (R_if_ne (off := 64) (t := 71) (by decide +kernel) (by decide +kernel)).trans (ite_congr rfl (fun c0 => ?_) (fun c0 => ?_))
  · refine (R_pure0 (ins := .iload 5) (len := 2) (loc' := [.ref a, .int x1, .int x2, .int x3, .int x4, .int x5, xmk]) (st' := [.int x5]) (by decide +kernel) (fun _ => rfl)).trans ?_
    refine (R_pure0 (ins := .iload 4) (len := 2) (loc' := [.ref a, .int x1, .int x2, .int x3, .int x4, .int x5, xmk]) (st' := [.int x4, .int x5]) (by decide +kernel) (fun _ => rfl)).trans ?_
    refine (R_icmp_gt (off := 57) (t := 71) (by decide +kernel) (by decide +kernel)).trans (ite_congr rfl (fun c1 => ?_) (fun c1 => ?_))
    · refine (R_bipush (n := (-9)) (v := (-9)) (by decide +kernel) (by decide +kernel)).trans ?_
      exact R_ireturn (by decide +kernel) (by decide +kernel)
    · refine (R_iconst (n := 0) (v := 0) (by decide +kernel) (by decide +kernel)).trans ?_
      refine (R_pure0 (ins := .iload_n 3) (len := 1) (loc' := [.ref a, .int x1, .int x2, .int x3, .int x4, .int x5, xmk]) (st' := [.int x3, .int 0]) (by decide +kernel) (fun _ => rfl)).trans ?_
      refine (R_pure0 (ins := .iload 5) (len := 2) (loc' := [.ref a, .int x1, .int x2, .int x3, .int x4, .int x5, xmk]) (st' := [.int x5, .int x3, .int 0]) (by decide +kernel) (fun _ => rfl)).trans ?_
      refine (R_pure0 (ins := .iadd) (len := 1) (loc' := [.ref a, .int x1, .int x2, .int x3, .int x4, .int x5, xmk]) (st' := [.int (x3 + x5), .int 0]) (by decide +kernel) (fun _ => rfl)).trans ?_
      refine (R_pure0 (ins := .iload_n 2) (len := 1) (loc' := [.ref a, .int x1, .int x2, .int x3, .int x4, .int x5, xmk]) (st' := [.int x2, .int (x3 + x5), .int 0]) (by decide +kernel) (fun _ => rfl)).trans ?_
      refine (R_pure0 (ins := .iadd) (len := 1) (loc' := [.ref a, .int x1, .int x2, .int x3, .int x4, .int x5, xmk]) (st' := [.int ((x3 + x5) + x2), .int 0]) (by decide +kernel) (fun _ => rfl)).trans ?_
      refine (R_pure0 (ins := .aload_n 0) (len := 1) (loc' := [.ref a, .int x1, .int x2, .int x3, .int x4, .int x5, xmk]) (st' := [.ref a, .int ((x3 + x5) + x2), .int 0]) (by decide +kernel) (fun _ => rfl)).trans ?_
      refine (R_gi (i := 21) (ci := 4) (k := 1) (n := 7) (by decide +kernel) (by decide +kernel) (by decide) hS_a).trans ?_
      refine (R_pure0 (ins := .isub) (len := 1) (loc' := [.ref a, .int x1, .int x2, .int x3, .int x4, .int x5, xmk]) (st' := [.int (((x3 + x5) + x2) - (mi a 1)), .int 0]) (by decide +kernel) (fun _ => rfl)).trans ?_
      refine (R_max (i := 43) (f := 0) (x := 0) (y := (((x3 + x5) + x2) - (mi a 1))) (by decide +kernel) (by decide +kernel) rfl).trans ?_
      refine (R_pure0 (ins := .istore 6) (len := 2) (loc' := [.ref a, .int x1, .int x2, .int x3, .int x4, .int x5, .int (if 0 < (((x3 + x5) + x2) - (mi a 1)) then (((x3 + x5) + x2) - (mi a 1)) else 0)]) (st' := []) (by decide +kernel) (fun _ => rfl)).trans ?_
      refine (R_pure0 (ins := .aload_n 0) (len := 1) (loc' := [.ref a, .int x1, .int x2, .int x3, .int x4, .int x5, .int (if 0 < (((x3 + x5) + x2) - (mi a 1)) then (((x3 + x5) + x2) - (mi a 1)) else 0)]) (st' := [.ref a]) (by decide +kernel) (fun _ => rfl)).trans ?_
      refine (R_pure0 (ins := .iload_n 3) (len := 1) (loc' := [.ref a, .int x1, .int x2, .int x3, .int x4, .int x5, .int (if 0 < (((x3 + x5) + x2) - (mi a 1)) then (((x3 + x5) + x2) - (mi a 1)) else 0)]) (st' := [.int x3, .ref a]) (by decide +kernel) (fun _ => rfl)).trans ?_
      refine (R_pure0 (ins := .iload 5) (len := 2) (loc' := [.ref a, .int x1, .int x2, .int x3, .int x4, .int x5, .int (if 0 < (((x3 + x5) + x2) - (mi a 1)) then (((x3 + x5) + x2) - (mi a 1)) else 0)]) (st' := [.int x5, .int x3, .ref a]) (by decide +kernel) (fun _ => rfl)).trans ?_
      refine (R_pure0 (ins := .iadd) (len := 1) (loc' := [.ref a, .int x1, .int x2, .int x3, .int x4, .int x5, .int (if 0 < (((x3 + x5) + x2) - (mi a 1)) then (((x3 + x5) + x2) - (mi a 1)) else 0)]) (st' := [.int (x3 + x5), .ref a]) (by decide +kernel) (fun _ => rfl)).trans ?_
      refine (R_virt (i := 61) (f := 55) (kd := 0) (na := 1) (ml := 2) (ci := 4) (n := 7) (b := a) (As := [.int (x3 + x5)]) (rest := []) (by decide +kernel) (by decide +kernel) (by decide) (by decide +kernel) rfl (by decide +kernel) hS_a rfl (by decide +kernel) (Nat.le_of_ble_eq_true rfl)).trans ?_
      rfl
  · refine (R_bipush (n := (-9)) (v := (-9)) (by decide +kernel) (by decide +kernel)).trans ?_
    exact R_ireturn (by decide +kernel) (by decide +kernel)
theorem s59_42 {L : Nat} {mi : Nat → Nat → Int32} {ml : Nat → Nat → Int64} {d : Nat} {Q : Option Value → xM → Prop} {x1 x2 x3 x4 x5 x6 y : Int32} {a : Nat} (hS_a : (SH L)[a]? = some (4, 7)) : X 59 42 [.ref a, .int x1, .int x2, .int x3, .int x4, .int x5, .int x6] [.int y] (SH L, mi, ml, MR) (d + 1) Q =
    if (y = 0) then (X 59 3 [.ref a, .int x1, .int x2, .int x3, .int x4, .int (x5 + 1), .int x6] [] (SH L, mi, ml, MR) (d + 1) Q) else (Xm 47 [.int (mi a 0), .int x6, .int (mi a 2)] (SH L, mi, ml, MR) d (fun v μ' => X 59 58 [.ref a, .int x1, .int x2, .int x3, .int x4, .int x5, .int x6] (v.toList ++ []) μ' (d + 1) Q)) := by
  refine (R_if_eq (off := 23) (t := 65) (by decide +kernel) (by decide +kernel)).trans (ite_congr rfl (fun c0 => ?_) (fun c0 => ?_))
  · refine (R_iinc (k := 5) (n := 1) (x := x5) (v := (x5 + 1)) (loc' := [.ref a, .int x1, .int x2, .int x3, .int x4, .int (x5 + 1), .int x6]) (by decide +kernel) rfl rfl rfl).trans ?_
    refine (R_goto (off := (-65)) (t := 3) (by decide +kernel) (by decide +kernel)).trans ?_
    rfl
  · refine (R_pure0 (ins := .aload_n 0) (len := 1) (loc' := [.ref a, .int x1, .int x2, .int x3, .int x4, .int x5, .int x6]) (st' := [.ref a]) (by decide +kernel) (fun _ => rfl)).trans ?_
    refine (R_gi (i := 15) (ci := 4) (k := 0) (n := 7) (by decide +kernel) (by decide +kernel) (by decide) hS_a).trans ?_
    refine (R_pure0 (ins := .iload 6) (len := 2) (loc' := [.ref a, .int x1, .int x2, .int x3, .int x4, .int x5, .int x6]) (st' := [.int x6, .int (mi a 0)]) (by decide +kernel) (fun _ => rfl)).trans ?_
    refine (R_pure0 (ins := .aload_n 0) (len := 1) (loc' := [.ref a, .int x1, .int x2, .int x3, .int x4, .int x5, .int x6]) (st' := [.ref a, .int x6, .int (mi a 0)]) (by decide +kernel) (fun _ => rfl)).trans ?_
    refine (R_gi (i := 24) (ci := 4) (k := 2) (n := 7) (by decide +kernel) (by decide +kernel) (by decide) hS_a).trans ?_
    refine (R_static (i := 58) (f := 47) (kd := 2) (na := 3) (ml := 4) (As := [.int (mi a 0), .int x6, .int (mi a 2)]) (rest := []) (by decide +kernel) (by decide +kernel) (by decide) (by decide +kernel) rfl rfl (by decide +kernel) (Nat.le_of_ble_eq_true rfl)).trans ?_
    rfl
theorem s59_3v2 {L : Nat} {mi : Nat → Nat → Int32} {ml : Nat → Nat → Int64} {d : Nat} {Q : Option Value → xM → Prop} {x1 x2 x3 x4 x5 x6 : Int32} {a : Nat} (hS_a : (SH L)[a]? = some (4, 7)) : X 59 3 [.ref a, .int x1, .int x2, .int x3, .int x4, .int x5, .int x6] [] (SH L, mi, ml, MR) (d + 1) Q =
    if ((mi a 6) = 0) then (if (x4 < x5) then (Q (some (.int (-9))) (SH L, mi, ml, MR)) else (Xm 55 [.ref a, .int (x3 + x5)] (SH L, mi, ml, MR) d (fun v μ' => X 59 42 [.ref a, .int x1, .int x2, .int x3, .int x4, .int x5, .int (if 0 < (((x3 + x5) + x2) - (mi a 1)) then (((x3 + x5) + x2) - (mi a 1)) else 0)] (v.toList ++ []) μ' (d + 1) Q))) else (Q (some (.int (-9))) (SH L, mi, ml, MR)) := by
  refine (R_pure0 (ins := .aload_n 0) (len := 1) (loc' := [.ref a, .int x1, .int x2, .int x3, .int x4, .int x5, .int x6]) (st' := [.ref a]) (by decide +kernel) (fun _ => rfl)).trans ?_
  refine (R_gi (i := 39) (ci := 4) (k := 6) (n := 7) (by decide +kernel) (by decide +kernel) (by decide) hS_a).trans ?_
  refine (R_if_ne (off := 64) (t := 71) (by decide +kernel) (by decide +kernel)).trans (ite_congr rfl (fun c0 => ?_) (fun c0 => ?_))
  · refine (R_pure0 (ins := .iload 5) (len := 2) (loc' := [.ref a, .int x1, .int x2, .int x3, .int x4, .int x5, .int x6]) (st' := [.int x5]) (by decide +kernel) (fun _ => rfl)).trans ?_
    refine (R_pure0 (ins := .iload 4) (len := 2) (loc' := [.ref a, .int x1, .int x2, .int x3, .int x4, .int x5, .int x6]) (st' := [.int x4, .int x5]) (by decide +kernel) (fun _ => rfl)).trans ?_
    refine (R_icmp_gt (off := 57) (t := 71) (by decide +kernel) (by decide +kernel)).trans (ite_congr rfl (fun c1 => ?_) (fun c1 => ?_))
    · refine (R_bipush (n := (-9)) (v := (-9)) (by decide +kernel) (by decide +kernel)).trans ?_
      exact R_ireturn (by decide +kernel) (by decide +kernel)
    · refine (R_iconst (n := 0) (v := 0) (by decide +kernel) (by decide +kernel)).trans ?_
      refine (R_pure0 (ins := .iload_n 3) (len := 1) (loc' := [.ref a, .int x1, .int x2, .int x3, .int x4, .int x5, .int x6]) (st' := [.int x3, .int 0]) (by decide +kernel) (fun _ => rfl)).trans ?_
      refine (R_pure0 (ins := .iload 5) (len := 2) (loc' := [.ref a, .int x1, .int x2, .int x3, .int x4, .int x5, .int x6]) (st' := [.int x5, .int x3, .int 0]) (by decide +kernel) (fun _ => rfl)).trans ?_
      refine (R_pure0 (ins := .iadd) (len := 1) (loc' := [.ref a, .int x1, .int x2, .int x3, .int x4, .int x5, .int x6]) (st' := [.int (x3 + x5), .int 0]) (by decide +kernel) (fun _ => rfl)).trans ?_
      refine (R_pure0 (ins := .iload_n 2) (len := 1) (loc' := [.ref a, .int x1, .int x2, .int x3, .int x4, .int x5, .int x6]) (st' := [.int x2, .int (x3 + x5), .int 0]) (by decide +kernel) (fun _ => rfl)).trans ?_
      refine (R_pure0 (ins := .iadd) (len := 1) (loc' := [.ref a, .int x1, .int x2, .int x3, .int x4, .int x5, .int x6]) (st' := [.int ((x3 + x5) + x2), .int 0]) (by decide +kernel) (fun _ => rfl)).trans ?_
      refine (R_pure0 (ins := .aload_n 0) (len := 1) (loc' := [.ref a, .int x1, .int x2, .int x3, .int x4, .int x5, .int x6]) (st' := [.ref a, .int ((x3 + x5) + x2), .int 0]) (by decide +kernel) (fun _ => rfl)).trans ?_
      refine (R_gi (i := 21) (ci := 4) (k := 1) (n := 7) (by decide +kernel) (by decide +kernel) (by decide) hS_a).trans ?_
      refine (R_pure0 (ins := .isub) (len := 1) (loc' := [.ref a, .int x1, .int x2, .int x3, .int x4, .int x5, .int x6]) (st' := [.int (((x3 + x5) + x2) - (mi a 1)), .int 0]) (by decide +kernel) (fun _ => rfl)).trans ?_
      refine (R_max (i := 43) (f := 0) (x := 0) (y := (((x3 + x5) + x2) - (mi a 1))) (by decide +kernel) (by decide +kernel) rfl).trans ?_
      refine (R_pure0 (ins := .istore 6) (len := 2) (loc' := [.ref a, .int x1, .int x2, .int x3, .int x4, .int x5, .int (if 0 < (((x3 + x5) + x2) - (mi a 1)) then (((x3 + x5) + x2) - (mi a 1)) else 0)]) (st' := []) (by decide +kernel) (fun _ => rfl)).trans ?_
      refine (R_pure0 (ins := .aload_n 0) (len := 1) (loc' := [.ref a, .int x1, .int x2, .int x3, .int x4, .int x5, .int (if 0 < (((x3 + x5) + x2) - (mi a 1)) then (((x3 + x5) + x2) - (mi a 1)) else 0)]) (st' := [.ref a]) (by decide +kernel) (fun _ => rfl)).trans ?_
      refine (R_pure0 (ins := .iload_n 3) (len := 1) (loc' := [.ref a, .int x1, .int x2, .int x3, .int x4, .int x5, .int (if 0 < (((x3 + x5) + x2) - (mi a 1)) then (((x3 + x5) + x2) - (mi a 1)) else 0)]) (st' := [.int x3, .ref a]) (by decide +kernel) (fun _ => rfl)).trans ?_
      refine (R_pure0 (ins := .iload 5) (len := 2) (loc' := [.ref a, .int x1, .int x2, .int x3, .int x4, .int x5, .int (if 0 < (((x3 + x5) + x2) - (mi a 1)) then (((x3 + x5) + x2) - (mi a 1)) else 0)]) (st' := [.int x5, .int x3, .ref a]) (by decide +kernel) (fun _ => rfl)).trans ?_
      refine (R_pure0 (ins := .iadd) (len := 1) (loc' := [.ref a, .int x1, .int x2, .int x3, .int x4, .int x5, .int (if 0 < (((x3 + x5) + x2) - (mi a 1)) then (((x3 + x5) + x2) - (mi a 1)) else 0)]) (st' := [.int (x3 + x5), .ref a]) (by decide +kernel) (fun _ => rfl)).trans ?_
      refine (R_virt (i := 61) (f := 55) (kd := 0) (na := 1) (ml := 2) (ci := 4) (n := 7) (b := a) (As := [.int (x3 + x5)]) (rest := []) (by decide +kernel) (by decide +kernel) (by decide) (by decide +kernel) rfl (by decide +kernel) hS_a rfl (by decide +kernel) (Nat.le_of_ble_eq_true rfl)).trans ?_
      rfl
  · refine (R_bipush (n := (-9)) (v := (-9)) (by decide +kernel) (by decide +kernel)).trans ?_
    exact R_ireturn (by decide +kernel) (by decide +kernel)
theorem s59_58 {L : Nat} {mi : Nat → Nat → Int32} {ml : Nat → Nat → Int64} {d : Nat} {Q : Option Value → xM → Prop} {x1 x2 x3 x4 x5 x6 y : Int32} {a : Nat} (hS_a : (SH L)[a]? = some (4, 7)) : X 59 58 [.ref a, .int x1, .int x2, .int x3, .int x4, .int x5, .int x6] [.int y] (SH L, mi, ml, MR) d Q =
    if (x1 < y) then (Q (some (.int x5)) (SH L, mi, ml, MR)) else (X 59 3 [.ref a, .int x1, .int x2, .int x3, .int x4, .int (x5 + 1), .int x6] [] (SH L, mi, ml, MR) d Q) := by
  refine (R_pure0 (ins := .iload_n 1) (len := 1) (loc' := [.ref a, .int x1, .int x2, .int x3, .int x4, .int x5, .int x6]) (st' := [.int x1, .int y]) (by decide +kernel) (fun _ => rfl)).trans ?_
  refine (R_icmp_le (off := 6) (t := 65) (by decide +kernel) (by decide +kernel)).trans (ite_congr rfl (fun c0 => ?_) (fun c0 => ?_))
  · refine (R_pure0 (ins := .iload 5) (len := 2) (loc' := [.ref a, .int x1, .int x2, .int x3, .int x4, .int x5, .int x6]) (st' := [.int x5]) (by decide +kernel) (fun _ => rfl)).trans ?_
    exact R_ireturn (by decide +kernel) (by decide +kernel)
  · refine (R_iinc (k := 5) (n := 1) (x := x5) (v := (x5 + 1)) (loc' := [.ref a, .int x1, .int x2, .int x3, .int x4, .int (x5 + 1), .int x6]) (by decide +kernel) rfl rfl rfl).trans ?_
    refine (R_goto (off := (-65)) (t := 3) (by decide +kernel) (by decide +kernel)).trans ?_
    rfl
theorem s60 {L : Nat} {mi : Nat → Nat → Int32} {ml : Nat → Nat → Int64} {d : Nat} {Q : Option Value → xM → Prop} {x1 x2 : Int32} {a : Nat} (hS_a : (SH L)[a]? = some (4, 7)) : Xm 60 [.ref a, .int x1, .int x2] (SH L, mi, ml, MR) (d + 1) Q =
    if (x1 = 0) then (Q (some (.int (mi a 0))) (SH L, mi, ml, MR)) else (if (x1 = 1) then (Q (some (.int (mi a 1))) (SH L, mi, ml, MR)) else (if (x1 = 2) then (Q (some (.int (mi a 2))) (SH L, mi, ml, MR)) else (if (x1 = 3) then (Q (some (.int (mi a 3))) (SH L, mi, ml, MR)) else (if (x1 = 4) then (Q (some (.int (mi a 4))) (SH L, mi, ml, MR)) else (if (x1 = 5) then (Q (some (.int (mi a 5))) (SH L, mi, ml, MR)) else (if (x1 = 6) then (Xm 54 [.ref a, .int x2] (SH L, mi, ml, MR) d (fun v μ' => X 60 79 [.ref a, .int x1, .int x2] (v.toList ++ []) μ' (d + 1) Q)) else (if ((mi a 6) = 0) then (Q (some (.int 0)) (SH L, mi, ml, MR)) else (Q (some (.int 1)) (SH L, mi, ml, MR))))))))) := by
  rw [Xm_ent (n := 3) (loc := [.ref a, .int x1, .int x2]) (by decide +kernel) rfl]
  refine (R_pure0 (ins := .iload_n 1) (len := 1) (loc' := [.ref a, .int x1, .int x2]) (st' := [.int x1]) (by decide +kernel) (fun _ => rfl)).trans ?_
  refine (R_switch (df := 79) (lo := 0) (hi := 6) (offs := #[43, 48, 53, 58, 63, 68, 73]) (len := 43) (l0 := 0) (dt := 80) (ts := [44, 49, 54, 59, 64, 69, 74]) (by decide +kernel) (by decide +kernel)).trans ?_
  refine ite_congr rfl (fun c0 => ?_) (fun c0 => ?_)
  · refine (R_pure0 (ins := .aload_n 0) (len := 1) (loc' := [.ref a, .int x1, .int x2]) (st' := [.ref a]) (by decide +kernel) (fun _ => rfl)).trans ?_
    refine (R_gi (i := 15) (ci := 4) (k := 0) (n := 7) (by decide +kernel) (by decide +kernel) (by decide) hS_a).trans ?_
    exact R_ireturn (by decide +kernel) (by decide +kernel)
  · refine ite_congr rfl (fun c1 => ?_) (fun c1 => ?_)
    · refine (R_pure0 (ins := .aload_n 0) (len := 1) (loc' := [.ref a, .int x1, .int x2]) (st' := [.ref a]) (by decide +kernel) (fun _ => rfl)).trans ?_
      refine (R_gi (i := 21) (ci := 4) (k := 1) (n := 7) (by decide +kernel) (by decide +kernel) (by decide) hS_a).trans ?_
      exact R_ireturn (by decide +kernel) (by decide +kernel)
    · refine ite_congr rfl (fun c2 => ?_) (fun c2 => ?_)
      · refine (R_pure0 (ins := .aload_n 0) (len := 1) (loc' := [.ref a, .int x1, .int x2]) (st' := [.ref a]) (by decide +kernel) (fun _ => rfl)).trans ?_
        refine (R_gi (i := 24) (ci := 4) (k := 2) (n := 7) (by decide +kernel) (by decide +kernel) (by decide) hS_a).trans ?_
        exact R_ireturn (by decide +kernel) (by decide +kernel)
      · refine ite_congr rfl (fun c3 => ?_) (fun c3 => ?_)
        · refine (R_pure0 (ins := .aload_n 0) (len := 1) (loc' := [.ref a, .int x1, .int x2]) (st' := [.ref a]) (by decide +kernel) (fun _ => rfl)).trans ?_
          refine (R_gi (i := 27) (ci := 4) (k := 3) (n := 7) (by decide +kernel) (by decide +kernel) (by decide) hS_a).trans ?_
          exact R_ireturn (by decide +kernel) (by decide +kernel)
        · refine ite_congr rfl (fun c4 => ?_) (fun c4 => ?_)
          · refine (R_pure0 (ins := .aload_n 0) (len := 1) (loc' := [.ref a, .int x1, .int x2]) (st' := [.ref a]) (by decide +kernel) (fun _ => rfl)).trans ?_
            refine (R_gi (i := 33) (ci := 4) (k := 4) (n := 7) (by decide +kernel) (by decide +kernel) (by decide) hS_a).trans ?_
            exact R_ireturn (by decide +kernel) (by decide +kernel)
          · refine ite_congr rfl (fun c5 => ?_) (fun c5 => ?_)
            · refine (R_pure0 (ins := .aload_n 0) (len := 1) (loc' := [.ref a, .int x1, .int x2]) (st' := [.ref a]) (by decide +kernel) (fun _ => rfl)).trans ?_
              refine (R_gi (i := 36) (ci := 4) (k := 5) (n := 7) (by decide +kernel) (by decide +kernel) (by decide) hS_a).trans ?_
              exact R_ireturn (by decide +kernel) (by decide +kernel)
            · refine ite_congr rfl (fun c6 => ?_) (fun c6 => ?_)
              · refine (R_pure0 (ins := .aload_n 0) (len := 1) (loc' := [.ref a, .int x1, .int x2]) (st' := [.ref a]) (by decide +kernel) (fun _ => rfl)).trans ?_
                refine (R_pure0 (ins := .iload_n 2) (len := 1) (loc' := [.ref a, .int x1, .int x2]) (st' := [.int x2, .ref a]) (by decide +kernel) (fun _ => rfl)).trans ?_
                refine (R_virt (i := 65) (f := 54) (kd := 0) (na := 1) (ml := 2) (ci := 4) (n := 7) (b := a) (As := [.int x2]) (rest := []) (by decide +kernel) (by decide +kernel) (by decide) (by decide +kernel) rfl (by decide +kernel) hS_a rfl (by decide +kernel) (Nat.le_of_ble_eq_true rfl)).trans ?_
                rfl
              · refine (R_pure0 (ins := .aload_n 0) (len := 1) (loc' := [.ref a, .int x1, .int x2]) (st' := [.ref a]) (by decide +kernel) (fun _ => rfl)).trans ?_
                refine (R_gi (i := 39) (ci := 4) (k := 6) (n := 7) (by decide +kernel) (by decide +kernel) (by decide) hS_a).trans ?_
                refine (R_if_eq (off := 7) (t := 91) (by decide +kernel) (by decide +kernel)).trans (ite_congr rfl (fun c7 => ?_) (fun c7 => ?_))
                · refine (R_iconst (n := 0) (v := 0) (by decide +kernel) (by decide +kernel)).trans ?_
                  exact R_ireturn (by decide +kernel) (by decide +kernel)
                · refine (R_iconst (n := 1) (v := 1) (by decide +kernel) (by decide +kernel)).trans ?_
                  refine (R_goto (off := 4) (t := 92) (by decide +kernel) (by decide +kernel)).trans ?_
                  exact R_ireturn (by decide +kernel) (by decide +kernel)
theorem s60_79 {L : Nat} {mi : Nat → Nat → Int32} {ml : Nat → Nat → Int64} {d : Nat} {Q : Option Value → xM → Prop} {x1 x2 y : Int32} {a : Nat} (hS_a : (SH L)[a]? = some (4, 7)) : X 60 79 [.ref a, .int x1, .int x2] [.int y] (SH L, mi, ml, MR) d Q =
    Q (some (.int y)) (SH L, mi, ml, MR) := by
  exact R_ireturn (by decide +kernel) (by decide +kernel)
theorem s61 {L : Nat} {mi : Nat → Nat → Int32} {ml : Nat → Nat → Int64} {d : Nat} {Q : Option Value → xM → Prop} {x1 x2 : Int32} {a : Nat} (hS_a : (SH L)[a]? = some (4, 7)) : Xm 61 [.ref a, .int x1, .int x2] (SH L, mi, ml, MR) (d + 1) Q =
    Xm 52 [.ref a, .int x2] (SH L, mi, ml, MR) d (fun v μ' => X 61 5 [.ref a, .int x1, .int x2, xmk] (v.toList ++ []) μ' (d + 1) Q) := by
  rw [Xm_ent (n := 4) (loc := [.ref a, .int x1, .int x2, xmk]) (by decide +kernel) rfl]
  refine (R_pure0 (ins := .aload_n 0) (len := 1) (loc' := [.ref a, .int x1, .int x2, xmk]) (st' := [.ref a]) (by decide +kernel) (fun _ => rfl)).trans ?_
  refine (R_pure0 (ins := .iload_n 2) (len := 1) (loc' := [.ref a, .int x1, .int x2, xmk]) (st' := [.int x2, .ref a]) (by decide +kernel) (fun _ => rfl)).trans ?_
  refine (R_virt (i := 54) (f := 52) (kd := 0) (na := 1) (ml := 2) (ci := 4) (n := 7) (b := a) (As := [.int x2]) (rest := []) (by decide +kernel) (by decide +kernel) (by decide) (by decide +kernel) rfl (by decide +kernel) hS_a rfl (by decide +kernel) (Nat.le_of_ble_eq_true rfl)).trans ?_
  rfl
theorem s61_5 {L : Nat} {mi : Nat → Nat → Int32} {ml : Nat → Nat → Int64} {d : Nat} {Q : Option Value → xM → Prop} {x1 x2 y : Int32} {a : Nat} (hS_a : (SH L)[a]? = some (4, 7)) : X 61 5 [.ref a, .int x1, .int x2, xmk] [.int y] (SH L, mi, ml, MR) (d + 1) Q =
    Xm 46 [.int y, .int (mi a 2)] (SH L, mi, ml, MR) d (fun v μ' => X 61 12 [.ref a, .int x1, .int x2, xmk] (v.toList ++ []) μ' (d + 1) Q) := by
  refine (R_pure0 (ins := .aload_n 0) (len := 1) (loc' := [.ref a, .int x1, .int x2, xmk]) (st' := [.ref a, .int y]) (by decide +kernel) (fun _ => rfl)).trans ?_
  refine (R_gi (i := 24) (ci := 4) (k := 2) (n := 7) (by decide +kernel) (by decide +kernel) (by decide) hS_a).trans ?_
  refine (R_static (i := 72) (f := 46) (kd := 2) (na := 2) (ml := 2) (As := [.int y, .int (mi a 2)]) (rest := []) (by decide +kernel) (by decide +kernel) (by decide) (by decide +kernel) rfl rfl (by decide +kernel) (Nat.le_of_ble_eq_true rfl)).trans ?_
  rfl
theorem s61_12 {L : Nat} {mi : Nat → Nat → Int32} {ml : Nat → Nat → Int64} {d : Nat} {Q : Option Value → xM → Prop} {x1 x2 y : Int32} {a : Nat} (hS_a : (SH L)[a]? = some (4, 7)) : X 61 12 [.ref a, .int x1, .int x2, xmk] [.int y] (SH L, mi, ml, MR) (d + 1) Q =
    if (x1 = 1) then (Xm 54 [.ref a, .int x2] (SH L, mi, ml, MR) d (fun v μ' => X 61 49 [.ref a, .int x1, .int x2, .int y] (v.toList ++ []) μ' (d + 1) Q)) else (if (x1 = 2) then (Xm 54 [.ref a, .int x2] (SH L, mi, ml, MR) d (fun v μ' => X 61 58 [.ref a, .int x1, .int x2, .int y] (v.toList ++ [.int y]) μ' (d + 1) Q)) else (if (x1 = 3) then (Xm 55 [.ref a, .int x2] (SH L, mi, ml, MR) d (fun v μ' => X 61 65 [.ref a, .int x1, .int x2, .int y] (v.toList ++ []) μ' (d + 1) Q)) else (if (x1 = 4) then (Xm 53 [.ref a, .int 0] (SH L, mi, ml, MR) d (fun v μ' => X 61 79 [.ref a, .int x1, .int x2, .int y] (v.toList ++ []) μ' (d + 1) Q)) else (Xm 62 [.ref a] (SH L, mi, ml, MR) d (fun v μ' => X 61 97 [.ref a, .int x1, .int x2, .int y] (v.toList ++ []) μ' (d + 1) Q))))) := by
  refine (R_pure0 (ins := .istore_n 3) (len := 1) (loc' := [.ref a, .int x1, .int x2, .int y]) (st' := []) (by decide +kernel) (fun _ => rfl)).trans ?_
  refine (R_pure0 (ins := .iload_n 1) (len := 1) (loc' := [.ref a, .int x1, .int x2, .int y]) (st' := [.int x1]) (by decide +kernel) (fun _ => rfl)).trans ?_
  refine (R_switch (df := 79) (lo := 1) (hi := 4) (offs := #[30, 38, 46, 60]) (len := 30) (l0 := 1) (dt := 93) (ts := [44, 52, 60, 74]) (by decide +kernel) (by decide +kernel)).trans ?_
  refine ite_congr rfl (fun c0 => ?_) (fun c0 => ?_)
  · refine (R_pure0 (ins := .aload_n 0) (len := 1) (loc' := [.ref a, .int x1, .int x2, .int y]) (st' := [.ref a]) (by decide +kernel) (fun _ => rfl)).trans ?_
    refine (R_pure0 (ins := .iload_n 2) (len := 1) (loc' := [.ref a, .int x1, .int x2, .int y]) (st' := [.int x2, .ref a]) (by decide +kernel) (fun _ => rfl)).trans ?_
    refine (R_virt (i := 65) (f := 54) (kd := 0) (na := 1) (ml := 2) (ci := 4) (n := 7) (b := a) (As := [.int x2]) (rest := []) (by decide +kernel) (by decide +kernel) (by decide) (by decide +kernel) rfl (by decide +kernel) hS_a rfl (by decide +kernel) (Nat.le_of_ble_eq_true rfl)).trans ?_
    rfl
  · refine ite_congr rfl (fun c1 => ?_) (fun c1 => ?_)
    · refine (R_pure0 (ins := .iload_n 3) (len := 1) (loc' := [.ref a, .int x1, .int x2, .int y]) (st' := [.int y]) (by decide +kernel) (fun _ => rfl)).trans ?_
      refine (R_pure0 (ins := .aload_n 0) (len := 1) (loc' := [.ref a, .int x1, .int x2, .int y]) (st' := [.ref a, .int y]) (by decide +kernel) (fun _ => rfl)).trans ?_
      refine (R_pure0 (ins := .iload_n 2) (len := 1) (loc' := [.ref a, .int x1, .int x2, .int y]) (st' := [.int x2, .ref a, .int y]) (by decide +kernel) (fun _ => rfl)).trans ?_
      refine (R_virt (i := 65) (f := 54) (kd := 0) (na := 1) (ml := 2) (ci := 4) (n := 7) (b := a) (As := [.int x2]) (rest := [.int y]) (by decide +kernel) (by decide +kernel) (by decide) (by decide +kernel) rfl (by decide +kernel) hS_a rfl (by decide +kernel) (Nat.le_of_ble_eq_true rfl)).trans ?_
      rfl
    · refine ite_congr rfl (fun c2 => ?_) (fun c2 => ?_)
      · refine (R_pure0 (ins := .aload_n 0) (len := 1) (loc' := [.ref a, .int x1, .int x2, .int y]) (st' := [.ref a]) (by decide +kernel) (fun _ => rfl)).trans ?_
        refine (R_pure0 (ins := .iload_n 2) (len := 1) (loc' := [.ref a, .int x1, .int x2, .int y]) (st' := [.int x2, .ref a]) (by decide +kernel) (fun _ => rfl)).trans ?_
        refine (R_virt (i := 61) (f := 55) (kd := 0) (na := 1) (ml := 2) (ci := 4) (n := 7) (b := a) (As := [.int x2]) (rest := []) (by decide +kernel) (by decide +kernel) (by decide) (by decide +kernel) rfl (by decide +kernel) hS_a rfl (by decide +kernel) (Nat.le_of_ble_eq_true rfl)).trans ?_
        rfl
      · refine ite_congr rfl (fun c3 => ?_) (fun c3 => ?_)
        · refine (R_pure0 (ins := .aload_n 0) (len := 1) (loc' := [.ref a, .int x1, .int x2, .int y]) (st' := [.ref a]) (by decide +kernel) (fun _ => rfl)).trans ?_
          refine (R_iconst (n := 0) (v := 0) (by decide +kernel) (by decide +kernel)).trans ?_
          refine (R_virt (i := 70) (f := 53) (kd := 0) (na := 1) (ml := 2) (ci := 4) (n := 7) (b := a) (As := [.int 0]) (rest := []) (by decide +kernel) (by decide +kernel) (by decide) (by decide +kernel) rfl (by decide +kernel) hS_a rfl (by decide +kernel) (Nat.le_of_ble_eq_true rfl)).trans ?_
          rfl
        · refine (R_pure0 (ins := .aload_n 0) (len := 1) (loc' := [.ref a, .int x1, .int x2, .int y]) (st' := [.ref a]) (by decide +kernel) (fun _ => rfl)).trans ?_
          refine (R_virt (i := 75) (f := 62) (kd := 0) (na := 0) (ml := 1) (ci := 4) (n := 7) (b := a) (As := []) (rest := []) (by decide +kernel) (by decide +kernel) (by decide) (by decide +kernel) rfl (by decide +kernel) hS_a rfl (by decide +kernel) (Nat.le_of_ble_eq_true rfl)).trans ?_
          rfl
theorem s61_49 {L : Nat} {mi : Nat → Nat → Int32} {ml : Nat → Nat → Int64} {d : Nat} {Q : Option Value → xM → Prop} {x1 x2 x3 y : Int32} {a : Nat} (hS_a : (SH L)[a]? = some (4, 7)) : X 61 49 [.ref a, .int x1, .int x2, .int x3] [.int y] (SH L, mi, ml, MR) d Q =
    Q (some (.int (y - x3))) (SH L, mi, ml, MR) := by
  refine (R_pure0 (ins := .iload_n 3) (len := 1) (loc' := [.ref a, .int x1, .int x2, .int x3]) (st' := [.int x3, .int y]) (by decide +kernel) (fun _ => rfl)).trans ?_
  refine (R_pure0 (ins := .isub) (len := 1) (loc' := [.ref a, .int x1, .int x2, .int x3]) (st' := [.int (y - x3)]) (by decide +kernel) (fun _ => rfl)).trans ?_
  exact R_ireturn (by decide +kernel) (by decide +kernel)
theorem s61_58 {L : Nat} {mi : Nat → Nat → Int32} {ml : Nat → Nat → Int64} {d : Nat} {Q : Option Value → xM → Prop} {x1 x2 x3 y z0 : Int32} {a : Nat} (hS_a : (SH L)[a]? = some (4, 7)) : X 61 58 [.ref a, .int x1, .int x2, .int x3] [.int y, .int z0] (SH L, mi, ml, MR) d Q =
    Q (some (.int (z0 - y))) (SH L, mi, ml, MR) := by
  refine (R_pure0 (ins := .isub) (len := 1) (loc' := [.ref a, .int x1, .int x2, .int x3]) (st' := [.int (z0 - y)]) (by decide +kernel) (fun _ => rfl)).trans ?_
  exact R_ireturn (by decide +kernel) (by decide +kernel)
theorem s61_65 {L : Nat} {mi : Nat → Nat → Int32} {ml : Nat → Nat → Int64} {d : Nat} {Q : Option Value → xM → Prop} {x1 x2 x3 y : Int32} {a : Nat} (hS_a : (SH L)[a]? = some (4, 7)) : X 61 65 [.ref a, .int x1, .int x2, .int x3] [.int y] (SH L, mi, ml, MR) d Q =
    if (y = 0) then (Q (some (.int 1)) (SH L, mi, ml, MR)) else (Q (some (.int 0)) (SH L, mi, ml, MR)) := by
  refine (R_if_eq (off := 7) (t := 72) (by decide +kernel) (by decide +kernel)).trans (ite_congr rfl (fun c0 => ?_) (fun c0 => ?_))
  · refine (R_iconst (n := 1) (v := 1) (by decide +kernel) (by decide +kernel)).trans ?_
    exact R_ireturn (by decide +kernel) (by decide +kernel)
  · refine (R_iconst (n := 0) (v := 0) (by decide +kernel) (by decide +kernel)).trans ?_
    refine (R_goto (off := 4) (t := 73) (by decide +kernel) (by decide +kernel)).trans ?_
    exact R_ireturn (by decide +kernel) (by decide +kernel)
theorem s61_79 {L : Nat} {mi : Nat → Nat → Int32} {ml : Nat → Nat → Int64} {d : Nat} {Q : Option Value → xM → Prop} {x1 x2 x3 y : Int32} {a : Nat} (hS_a : (SH L)[a]? = some (4, 7)) : X 61 79 [.ref a, .int x1, .int x2, .int x3] [.int y] (SH L, mi, ml, MR) (d + 1) Q =
    Xm 48 [.int 1, .int (mi a 3), .int 0] (SH L, mi, ml, MR) d (fun v μ' => X 61 88 [.ref a, .int x1, .int x2, .int x3] (v.toList ++ [.int y]) μ' (d + 1) Q) := by
  refine (R_iconst (n := 1) (v := 1) (by decide +kernel) (by decide +kernel)).trans ?_
  refine (R_pure0 (ins := .aload_n 0) (len := 1) (loc' := [.ref a, .int x1, .int x2, .int x3]) (st' := [.ref a, .int 1, .int y]) (by decide +kernel) (fun _ => rfl)).trans ?_
  refine (R_gi (i := 27) (ci := 4) (k := 3) (n := 7) (by decide +kernel) (by decide +kernel) (by decide) hS_a).trans ?_
  refine (R_iconst (n := 0) (v := 0) (by decide +kernel) (by decide +kernel)).trans ?_
  refine (R_static (i := 48) (f := 48) (kd := 2) (na := 3) (ml := 3) (As := [.int 1, .int (mi a 3), .int 0]) (rest := [.int y]) (by decide +kernel) (by decide +kernel) (by decide) (by decide +kernel) rfl rfl (by decide +kernel) (Nat.le_of_ble_eq_true rfl)).trans ?_
  rfl
theorem s61_97 {L : Nat} {mi : Nat → Nat → Int32} {ml : Nat → Nat → Int64} {d : Nat} {Q : Option Value → xM → Prop} {x1 x2 x3 y : Int32} {a : Nat} (hS_a : (SH L)[a]? = some (4, 7)) : X 61 97 [.ref a, .int x1, .int x2, .int x3] [.int y] (SH L, mi, ml, MR) d Q =
    if (y = 0) then (Q (some (.int 0)) (SH L, mi, ml, MR)) else (Q (some (.int 1)) (SH L, mi, ml, MR)) := by
  refine (R_if_eq (off := 7) (t := 104) (by decide +kernel) (by decide +kernel)).trans (ite_congr rfl (fun c0 => ?_) (fun c0 => ?_))
  · refine (R_iconst (n := 0) (v := 0) (by decide +kernel) (by decide +kernel)).trans ?_
    exact R_ireturn (by decide +kernel) (by decide +kernel)
  · refine (R_iconst (n := 1) (v := 1) (by decide +kernel) (by decide +kernel)).trans ?_
    refine (R_goto (off := 4) (t := 105) (by decide +kernel) (by decide +kernel)).trans ?_
    exact R_ireturn (by decide +kernel) (by decide +kernel)
theorem s61_88 {L : Nat} {mi : Nat → Nat → Int32} {ml : Nat → Nat → Int64} {d : Nat} {Q : Option Value → xM → Prop} {x1 x2 x3 y z0 : Int32} {a : Nat} (hS_a : (SH L)[a]? = some (4, 7)) : X 61 88 [.ref a, .int x1, .int x2, .int x3] [.int y, .int z0] (SH L, mi, ml, MR) d Q =
    Q (some (.int ((z0 - y) + 10))) (SH L, mi, ml, MR) := by
  refine (R_pure0 (ins := .isub) (len := 1) (loc' := [.ref a, .int x1, .int x2, .int x3]) (st' := [.int (z0 - y)]) (by decide +kernel) (fun _ => rfl)).trans ?_
  refine (R_bipush (n := 10) (v := 10) (by decide +kernel) (by decide +kernel)).trans ?_
  refine (R_pure0 (ins := .iadd) (len := 1) (loc' := [.ref a, .int x1, .int x2, .int x3]) (st' := [.int ((z0 - y) + 10)]) (by decide +kernel) (fun _ => rfl)).trans ?_
  exact R_ireturn (by decide +kernel) (by decide +kernel)
theorem s62 {L : Nat} {mi : Nat → Nat → Int32} {ml : Nat → Nat → Int64} {d : Nat} {Q : Option Value → xM → Prop} {a : Nat} (hS_a : (SH L)[a]? = some (4, 7)) : Xm 62 [.ref a] (SH L, mi, ml, MR) (d + 1) Q =
    if ((0 : Int32) < (mi a 5)) then (if ((mi a 5) < 9) then (Xm 53 [.ref a, .int (mi a 5)] (SH L, mi, ml, MR) d (fun v μ' => X 62 24 [.ref a] (v.toList ++ []) μ' (d + 1) Q)) else (Q (some (.int 0)) (SH L, mi, ml, MR))) else (Q (some (.int 0)) (SH L, mi, ml, MR)) := by
  rw [Xm_ent (n := 1) (loc := [.ref a]) (by decide +kernel) rfl]
  refine (R_pure0 (ins := .aload_n 0) (len := 1) (loc' := [.ref a]) (st' := [.ref a]) (by decide +kernel) (fun _ => rfl)).trans ?_
  refine (R_gi (i := 36) (ci := 4) (k := 5) (n := 7) (by decide +kernel) (by decide +kernel) (by decide) hS_a).trans ?_
  refine (R_if_le (off := 37) (t := 41) (by decide +kernel) (by decide +kernel)).trans (ite_congr rfl (fun c0 => ?_) (fun c0 => ?_))
  · refine (R_pure0 (ins := .aload_n 0) (len := 1) (loc' := [.ref a]) (st' := [.ref a]) (by decide +kernel) (fun _ => rfl)).trans ?_
    refine (R_gi (i := 36) (ci := 4) (k := 5) (n := 7) (by decide +kernel) (by decide +kernel) (by decide) hS_a).trans ?_
    refine (R_bipush (n := 9) (v := 9) (by decide +kernel) (by decide +kernel)).trans ?_
    refine (R_icmp_ge (off := 28) (t := 41) (by decide +kernel) (by decide +kernel)).trans (ite_congr rfl (fun c1 => ?_) (fun c1 => ?_))
    · refine (R_pure0 (ins := .aload_n 0) (len := 1) (loc' := [.ref a]) (st' := [.ref a]) (by decide +kernel) (fun _ => rfl)).trans ?_
      refine (R_pure0 (ins := .aload_n 0) (len := 1) (loc' := [.ref a]) (st' := [.ref a, .ref a]) (by decide +kernel) (fun _ => rfl)).trans ?_
      refine (R_gi (i := 36) (ci := 4) (k := 5) (n := 7) (by decide +kernel) (by decide +kernel) (by decide) hS_a).trans ?_
      refine (R_virt (i := 70) (f := 53) (kd := 0) (na := 1) (ml := 2) (ci := 4) (n := 7) (b := a) (As := [.int (mi a 5)]) (rest := []) (by decide +kernel) (by decide +kernel) (by decide) (by decide +kernel) rfl (by decide +kernel) hS_a rfl (by decide +kernel) (Nat.le_of_ble_eq_true rfl)).trans ?_
      rfl
    · refine (R_iconst (n := 0) (v := 0) (by decide +kernel) (by decide +kernel)).trans ?_
      exact R_zreturn (by decide +kernel) (by decide +kernel) (by decide)
  · refine (R_iconst (n := 0) (v := 0) (by decide +kernel) (by decide +kernel)).trans ?_
    exact R_zreturn (by decide +kernel) (by decide +kernel) (by decide)
theorem s62_24 {L : Nat} {mi : Nat → Nat → Int32} {ml : Nat → Nat → Int64} {d : Nat} {Q : Option Value → xM → Prop} {y : Int32} {a : Nat} (hS_a : (SH L)[a]? = some (4, 7)) : X 62 24 [.ref a] [.int y] (SH L, mi, ml, MR) (d + 1) Q =
    Xm 53 [.ref a, .int ((mi a 5) - 1)] (SH L, mi, ml, MR) d (fun v μ' => X 62 34 [.ref a] (v.toList ++ [.int y]) μ' (d + 1) Q) := by
  refine (R_pure0 (ins := .aload_n 0) (len := 1) (loc' := [.ref a]) (st' := [.ref a, .int y]) (by decide +kernel) (fun _ => rfl)).trans ?_
  refine (R_pure0 (ins := .aload_n 0) (len := 1) (loc' := [.ref a]) (st' := [.ref a, .ref a, .int y]) (by decide +kernel) (fun _ => rfl)).trans ?_
  refine (R_gi (i := 36) (ci := 4) (k := 5) (n := 7) (by decide +kernel) (by decide +kernel) (by decide) hS_a).trans ?_
  refine (R_iconst (n := 1) (v := 1) (by decide +kernel) (by decide +kernel)).trans ?_
  refine (R_pure0 (ins := .isub) (len := 1) (loc' := [.ref a]) (st' := [.int ((mi a 5) - 1), .ref a, .int y]) (by decide +kernel) (fun _ => rfl)).trans ?_
  refine (R_virt (i := 70) (f := 53) (kd := 0) (na := 1) (ml := 2) (ci := 4) (n := 7) (b := a) (As := [.int ((mi a 5) - 1)]) (rest := [.int y]) (by decide +kernel) (by decide +kernel) (by decide) (by decide +kernel) rfl (by decide +kernel) hS_a rfl (by decide +kernel) (Nat.le_of_ble_eq_true rfl)).trans ?_
  rfl
theorem s62_34 {L : Nat} {mi : Nat → Nat → Int32} {ml : Nat → Nat → Int64} {d : Nat} {Q : Option Value → xM → Prop} {y z0 : Int32} {a : Nat} (hS_a : (SH L)[a]? = some (4, 7)) : X 62 34 [.ref a] [.int y, .int z0] (SH L, mi, ml, MR) d Q =
    if (z0 = y) then (Q (some (.int 1)) (SH L, mi, ml, MR)) else (Q (some (.int 0)) (SH L, mi, ml, MR)) := by
  refine (R_icmp_ne (off := 7) (t := 41) (by decide +kernel) (by decide +kernel)).trans (ite_congr rfl (fun c0 => ?_) (fun c0 => ?_))
  · refine (R_iconst (n := 1) (v := 1) (by decide +kernel) (by decide +kernel)).trans ?_
    refine (R_goto (off := 4) (t := 42) (by decide +kernel) (by decide +kernel)).trans ?_
    exact R_zreturn (by decide +kernel) (by decide +kernel) (by decide)
  · refine (R_iconst (n := 0) (v := 0) (by decide +kernel) (by decide +kernel)).trans ?_
    exact R_zreturn (by decide +kernel) (by decide +kernel) (by decide)
theorem s82 {L : Nat} {mi : Nat → Nat → Int32} {ml : Nat → Nat → Int64} {d : Nat} {Q : Option Value → xM → Prop} {x1 : Int32} {a rb18 : Nat} {n_a : Nat} {n_rb18 : Nat} (hS_a : isShelf L a n_a) (hS_rb18 : isStrip L rb18 n_rb18) (h1 : ¬ (x1 < 0) → (x1 < (Int32.ofNat n_a)) → xin x1 n_a = true) (h2 : ¬ (x1 < 0) → (x1 < (Int32.ofNat n_a)) → MR (a + 1) x1.toNatClampNeg = some rb18) : Xm 82 [.ref a, .int x1] (SH L, mi, ml, MR) d Q =
    if (x1 < 0) then (Q (some .null) (SH L, mi, ml, MR)) else (if (x1 < (Int32.ofNat n_a)) then (Q (some (.ref rb18)) (SH L, mi, ml, MR)) else (Q (some .null) (SH L, mi, ml, MR))) := by
  rw [Xm_ent (n := 2) (loc := [.ref a, .int x1]) (by decide +kernel) rfl]
  refine (R_pure0 (ins := .iload_n 1) (len := 1) (loc' := [.ref a, .int x1]) (st' := [.int x1]) (by decide +kernel) (fun _ => rfl)).trans ?_
  refine (R_if_lt (off := 21) (t := 22) (by decide +kernel) (by decide +kernel)).trans (ite_congr rfl (fun c0 => ?_) (fun c0 => ?_))
  · refine (R_pure0 (ins := .aconst_null) (len := 1) (loc' := [.ref a, .int x1]) (st' := [.null]) (by decide +kernel) (fun _ => rfl)).trans ?_
    exact R_nreturn (nm := "BeanVoices$Strip") (by decide +kernel) (by decide +kernel)
  · refine (R_pure0 (ins := .iload_n 1) (len := 1) (loc' := [.ref a, .int x1]) (st' := [.int x1]) (by decide +kernel) (fun _ => rfl)).trans ?_
    refine (R_pure0 (ins := .aload_n 0) (len := 1) (loc' := [.ref a, .int x1]) (st' := [.ref a, .int x1]) (by decide +kernel) (fun _ => rfl)).trans ?_
    refine (R_gr (i := 15) (ci := 7) (k := 0) (n := 1) (b := (a + 1)) (by decide +kernel) (by decide +kernel) (by decide) hS_a.1 hS_a.2.1).trans ?_
    refine (R_arraylength (kd := 103) (n := n_a) (by decide +kernel) hS_a.2.2 (by decide)).trans ?_
    refine (R_icmp_ge (off := 12) (t := 22) (by decide +kernel) (by decide +kernel)).trans (ite_congr rfl (fun c1 => ?_) (fun c1 => ?_))
    · refine (R_pure0 (ins := .aload_n 0) (len := 1) (loc' := [.ref a, .int x1]) (st' := [.ref a]) (by decide +kernel) (fun _ => rfl)).trans ?_
      refine (R_gr (i := 15) (ci := 7) (k := 0) (n := 1) (b := (a + 1)) (by decide +kernel) (by decide +kernel) (by decide) hS_a.1 hS_a.2.1).trans ?_
      refine (R_pure0 (ins := .iload_n 1) (len := 1) (loc' := [.ref a, .int x1]) (st' := [.int x1, .ref (a + 1)]) (by decide +kernel) (fun _ => rfl)).trans ?_
      refine (R_aaload (kd := 103) (n := n_a) (b := rb18) (by decide +kernel) hS_a.2.2 (by decide) (h1 c0 c1) (h2 c0 c1)).trans ?_
      refine (R_goto (off := 4) (t := 23) (by decide +kernel) (by decide +kernel)).trans ?_
      exact R_areturn (nm := "BeanVoices$Strip") (by decide +kernel) (by decide +kernel)
    · refine (R_pure0 (ins := .aconst_null) (len := 1) (loc' := [.ref a, .int x1]) (st' := [.null]) (by decide +kernel) (fun _ => rfl)).trans ?_
      exact R_nreturn (nm := "BeanVoices$Strip") (by decide +kernel) (by decide +kernel)
theorem s83 {L : Nat} {mi : Nat → Nat → Int32} {ml : Nat → Nat → Int64} {d : Nat} {Q : Option Value → xM → Prop} {a : Nat} {n_a : Nat} (hS_a : isShelf L a n_a) : Xm 83 [.ref a] (SH L, mi, ml, MR) d Q =
    X 83 4 [.ref a, .int 0, .int 0, xmk] [] (SH L, mi, ml, MR) d Q := by
  rw [Xm_ent (n := 4) (loc := [.ref a, xmk, xmk, xmk]) (by decide +kernel) rfl]
  refine (R_iconst (n := 0) (v := 0) (by decide +kernel) (by decide +kernel)).trans ?_
  refine (R_pure0 (ins := .istore_n 1) (len := 1) (loc' := [.ref a, .int 0, xmk, xmk]) (st' := []) (by decide +kernel) (fun _ => rfl)).trans ?_
  refine (R_iconst (n := 0) (v := 0) (by decide +kernel) (by decide +kernel)).trans ?_
  refine (R_pure0 (ins := .istore_n 2) (len := 1) (loc' := [.ref a, .int 0, .int 0, xmk]) (st' := []) (by decide +kernel) (fun _ => rfl)).trans ?_
  rfl
theorem s83_4 {L : Nat} {mi : Nat → Nat → Int32} {ml : Nat → Nat → Int64} {d : Nat} {Q : Option Value → xM → Prop} {x1 x2 : Int32} {a rb18 : Nat} {n_a : Nat} {n_rb18 : Nat} (hS_a : isShelf L a n_a) (hS_rb18 : isStrip L rb18 n_rb18) (h1 : (x2 < (Int32.ofNat n_a)) → xin x2 n_a = true) (h2 : (x2 < (Int32.ofNat n_a)) → MR (a + 1) x2.toNatClampNeg = some rb18) : X 83 4 [.ref a, .int x1, .int x2, xmk] [] (SH L, mi, ml, MR) (d + 1) Q =
    if (x2 < (Int32.ofNat n_a)) then (Xm 87 [.ref rb18] (SH L, mi, ml, MR) d (fun v μ' => X 83 29 [.ref a, .int x1, .int x2, .ref rb18] (v.toList ++ [.int x1]) μ' (d + 1) Q)) else (Q (some (.int x1)) (SH L, mi, ml, MR)) := by
  refine (R_pure0 (ins := .iload_n 2) (len := 1) (loc' := [.ref a, .int x1, .int x2, xmk]) (st' := [.int x2]) (by decide +kernel) (fun _ => rfl)).trans ?_
  refine (R_pure0 (ins := .aload_n 0) (len := 1) (loc' := [.ref a, .int x1, .int x2, xmk]) (st' := [.ref a, .int x2]) (by decide +kernel) (fun _ => rfl)).trans ?_
  refine (R_gr (i := 15) (ci := 7) (k := 0) (n := 1) (b := (a + 1)) (by decide +kernel) (by decide +kernel) (by decide) hS_a.1 hS_a.2.1).trans ?_
  refine (R_arraylength (kd := 103) (n := n_a) (by decide +kernel) hS_a.2.2 (by decide)).trans ?_
  refine (R_icmp_ge (off := 35) (t := 45) (by decide +kernel) (by decide +kernel)).trans (ite_congr rfl (fun c0 => ?_) (fun c0 => ?_))
  · refine (R_pure0 (ins := .aload_n 0) (len := 1) (loc' := [.ref a, .int x1, .int x2, xmk]) (st' := [.ref a]) (by decide +kernel) (fun _ => rfl)).trans ?_
    refine (R_gr (i := 15) (ci := 7) (k := 0) (n := 1) (b := (a + 1)) (by decide +kernel) (by decide +kernel) (by decide) hS_a.1 hS_a.2.1).trans ?_
    refine (R_pure0 (ins := .iload_n 2) (len := 1) (loc' := [.ref a, .int x1, .int x2, xmk]) (st' := [.int x2, .ref (a + 1)]) (by decide +kernel) (fun _ => rfl)).trans ?_
    refine (R_aaload (kd := 103) (n := n_a) (b := rb18) (by decide +kernel) hS_a.2.2 (by decide) (h1 c0) (h2 c0)).trans ?_
    refine (R_pure0 (ins := .astore_n 3) (len := 1) (loc' := [.ref a, .int x1, .int x2, .ref rb18]) (st' := []) (by decide +kernel) (fun _ => rfl)).trans ?_
    refine (R_pure0 (ins := .iload_n 1) (len := 1) (loc' := [.ref a, .int x1, .int x2, .ref rb18]) (st' := [.int x1]) (by decide +kernel) (fun _ => rfl)).trans ?_
    refine (R_pure0 (ins := .aload_n 3) (len := 1) (loc' := [.ref a, .int x1, .int x2, .ref rb18]) (st' := [.ref rb18, .int x1]) (by decide +kernel) (fun _ => rfl)).trans ?_
    refine (R_ifnull_r (off := 14) (by decide +kernel)).trans ?_
    refine (R_pure0 (ins := .aload_n 3) (len := 1) (loc' := [.ref a, .int x1, .int x2, .ref rb18]) (st' := [.ref rb18, .int x1]) (by decide +kernel) (fun _ => rfl)).trans ?_
    refine (R_virt (i := 24) (f := 87) (kd := 0) (na := 0) (ml := 1) (ci := 8) (n := 2) (b := rb18) (As := []) (rest := [.int x1]) (by decide +kernel) (by decide +kernel) (by decide) (by decide +kernel) rfl (by decide +kernel) hS_rb18.1 rfl (by decide +kernel) (Nat.le_of_ble_eq_true rfl)).trans ?_
    rfl
  · refine (R_pure0 (ins := .iload_n 1) (len := 1) (loc' := [.ref a, .int x1, .int x2, xmk]) (st' := [.int x1]) (by decide +kernel) (fun _ => rfl)).trans ?_
    exact R_ireturn (by decide +kernel) (by decide +kernel)
theorem s83_29 {L : Nat} {mi : Nat → Nat → Int32} {ml : Nat → Nat → Int64} {d : Nat} {Q : Option Value → xM → Prop} {x1 x2 y z0 : Int32} {a r3 : Nat} {n_a : Nat} {n_r3 : Nat} (hS_a : isShelf L a n_a) (hS_r3 : isStrip L r3 n_r3) : X 83 29 [.ref a, .int x1, .int x2, .ref r3] [.int y, .int z0] (SH L, mi, ml, MR) d Q =
    if (y = 0) then (X 83 4 [.ref a, .int (z0 + 1), .int (x2 + 1), .ref r3] [] (SH L, mi, ml, MR) d Q) else (X 83 4 [.ref a, .int (z0 + 0), .int (x2 + 1), .ref r3] [] (SH L, mi, ml, MR) d Q) := by
  refine (R_if_ne (off := 7) (t := 36) (by decide +kernel) (by decide +kernel)).trans (ite_congr rfl (fun c0 => ?_) (fun c0 => ?_))
  · refine (R_iconst (n := 1) (v := 1) (by decide +kernel) (by decide +kernel)).trans ?_
    refine (R_goto (off := 4) (t := 37) (by decide +kernel) (by decide +kernel)).trans ?_
    refine (R_pure0 (ins := .iadd) (len := 1) (loc' := [.ref a, .int x1, .int x2, .ref r3]) (st' := [.int (z0 + 1)]) (by decide +kernel) (fun _ => rfl)).trans ?_
    refine (R_pure0 (ins := .istore_n 1) (len := 1) (loc' := [.ref a, .int (z0 + 1), .int x2, .ref r3]) (st' := []) (by decide +kernel) (fun _ => rfl)).trans ?_
    refine (R_iinc (k := 2) (n := 1) (x := x2) (v := (x2 + 1)) (loc' := [.ref a, .int (z0 + 1), .int (x2 + 1), .ref r3]) (by decide +kernel) rfl rfl rfl).trans ?_
    refine (R_goto (off := (-38)) (t := 4) (by decide +kernel) (by decide +kernel)).trans ?_
    rfl
  · refine (R_iconst (n := 0) (v := 0) (by decide +kernel) (by decide +kernel)).trans ?_
    refine (R_pure0 (ins := .iadd) (len := 1) (loc' := [.ref a, .int x1, .int x2, .ref r3]) (st' := [.int (z0 + 0)]) (by decide +kernel) (fun _ => rfl)).trans ?_
    refine (R_pure0 (ins := .istore_n 1) (len := 1) (loc' := [.ref a, .int (z0 + 0), .int x2, .ref r3]) (st' := []) (by decide +kernel) (fun _ => rfl)).trans ?_
    refine (R_iinc (k := 2) (n := 1) (x := x2) (v := (x2 + 1)) (loc' := [.ref a, .int (z0 + 0), .int (x2 + 1), .ref r3]) (by decide +kernel) rfl rfl rfl).trans ?_
    refine (R_goto (off := (-38)) (t := 4) (by decide +kernel) (by decide +kernel)).trans ?_
    rfl
theorem s83_4v2 {L : Nat} {mi : Nat → Nat → Int32} {ml : Nat → Nat → Int64} {d : Nat} {Q : Option Value → xM → Prop} {x1 x2 : Int32} {a r3 rb18 : Nat} {n_a : Nat} {n_r3 : Nat} {n_rb18 : Nat} (hS_a : isShelf L a n_a) (hS_r3 : isStrip L r3 n_r3) (hS_rb18 : isStrip L rb18 n_rb18) (h1 : (x2 < (Int32.ofNat n_a)) → xin x2 n_a = true) (h2 : (x2 < (Int32.ofNat n_a)) → MR (a + 1) x2.toNatClampNeg = some rb18) : X 83 4 [.ref a, .int x1, .int x2, .ref r3] [] (SH L, mi, ml, MR) (d + 1) Q =
    if (x2 < (Int32.ofNat n_a)) then (Xm 87 [.ref rb18] (SH L, mi, ml, MR) d (fun v μ' => X 83 29 [.ref a, .int x1, .int x2, .ref rb18] (v.toList ++ [.int x1]) μ' (d + 1) Q)) else (Q (some (.int x1)) (SH L, mi, ml, MR)) := by
  refine (R_pure0 (ins := .iload_n 2) (len := 1) (loc' := [.ref a, .int x1, .int x2, .ref r3]) (st' := [.int x2]) (by decide +kernel) (fun _ => rfl)).trans ?_
  refine (R_pure0 (ins := .aload_n 0) (len := 1) (loc' := [.ref a, .int x1, .int x2, .ref r3]) (st' := [.ref a, .int x2]) (by decide +kernel) (fun _ => rfl)).trans ?_
  refine (R_gr (i := 15) (ci := 7) (k := 0) (n := 1) (b := (a + 1)) (by decide +kernel) (by decide +kernel) (by decide) hS_a.1 hS_a.2.1).trans ?_
  refine (R_arraylength (kd := 103) (n := n_a) (by decide +kernel) hS_a.2.2 (by decide)).trans ?_
  refine (R_icmp_ge (off := 35) (t := 45) (by decide +kernel) (by decide +kernel)).trans (ite_congr rfl (fun c0 => ?_) (fun c0 => ?_))
  · refine (R_pure0 (ins := .aload_n 0) (len := 1) (loc' := [.ref a, .int x1, .int x2, .ref r3]) (st' := [.ref a]) (by decide +kernel) (fun _ => rfl)).trans ?_
    refine (R_gr (i := 15) (ci := 7) (k := 0) (n := 1) (b := (a + 1)) (by decide +kernel) (by decide +kernel) (by decide) hS_a.1 hS_a.2.1).trans ?_
    refine (R_pure0 (ins := .iload_n 2) (len := 1) (loc' := [.ref a, .int x1, .int x2, .ref r3]) (st' := [.int x2, .ref (a + 1)]) (by decide +kernel) (fun _ => rfl)).trans ?_
    refine (R_aaload (kd := 103) (n := n_a) (b := rb18) (by decide +kernel) hS_a.2.2 (by decide) (h1 c0) (h2 c0)).trans ?_
    refine (R_pure0 (ins := .astore_n 3) (len := 1) (loc' := [.ref a, .int x1, .int x2, .ref rb18]) (st' := []) (by decide +kernel) (fun _ => rfl)).trans ?_
    refine (R_pure0 (ins := .iload_n 1) (len := 1) (loc' := [.ref a, .int x1, .int x2, .ref rb18]) (st' := [.int x1]) (by decide +kernel) (fun _ => rfl)).trans ?_
    refine (R_pure0 (ins := .aload_n 3) (len := 1) (loc' := [.ref a, .int x1, .int x2, .ref rb18]) (st' := [.ref rb18, .int x1]) (by decide +kernel) (fun _ => rfl)).trans ?_
    refine (R_ifnull_r (off := 14) (by decide +kernel)).trans ?_
    refine (R_pure0 (ins := .aload_n 3) (len := 1) (loc' := [.ref a, .int x1, .int x2, .ref rb18]) (st' := [.ref rb18, .int x1]) (by decide +kernel) (fun _ => rfl)).trans ?_
    refine (R_virt (i := 24) (f := 87) (kd := 0) (na := 0) (ml := 1) (ci := 8) (n := 2) (b := rb18) (As := []) (rest := [.int x1]) (by decide +kernel) (by decide +kernel) (by decide) (by decide +kernel) rfl (by decide +kernel) hS_rb18.1 rfl (by decide +kernel) (Nat.le_of_ble_eq_true rfl)).trans ?_
    rfl
  · refine (R_pure0 (ins := .iload_n 1) (len := 1) (loc' := [.ref a, .int x1, .int x2, .ref r3]) (st' := [.int x1]) (by decide +kernel) (fun _ => rfl)).trans ?_
    exact R_ireturn (by decide +kernel) (by decide +kernel)
theorem s84 {L : Nat} {mi : Nat → Nat → Int32} {ml : Nat → Nat → Int64} {d : Nat} {Q : Option Value → xM → Prop} {a : Nat} {n_a : Nat} (hS_a : isShelf L a n_a) : Xm 84 [.ref a] (SH L, mi, ml, MR) d Q =
    X 84 2 [.ref a, .int 0, xmk] [] (SH L, mi, ml, MR) d Q := by
  rw [Xm_ent (n := 3) (loc := [.ref a, xmk, xmk]) (by decide +kernel) rfl]
  refine (R_iconst (n := 0) (v := 0) (by decide +kernel) (by decide +kernel)).trans ?_
  refine (R_pure0 (ins := .istore_n 1) (len := 1) (loc' := [.ref a, .int 0, xmk]) (st' := []) (by decide +kernel) (fun _ => rfl)).trans ?_
  rfl
theorem s84_2 {L : Nat} {mi : Nat → Nat → Int32} {ml : Nat → Nat → Int64} {d : Nat} {Q : Option Value → xM → Prop} {x1 : Int32} {a rb16 : Nat} {n_a : Nat} {n_rb16 : Nat} (hS_a : isShelf L a n_a) (hS_rb16 : isStrip L rb16 n_rb16) (h1 : (x1 < (Int32.ofNat n_a)) → xin x1 n_a = true) (h2 : (x1 < (Int32.ofNat n_a)) → MR (a + 1) x1.toNatClampNeg = some rb16) : X 84 2 [.ref a, .int x1, xmk] [] (SH L, mi, ml, MR) (d + 1) Q =
    if (x1 < (Int32.ofNat n_a)) then (Xm 95 [.ref rb16] (SH L, mi, ml, MR) d (fun v μ' => X 84 26 [.ref a, .int x1, .ref rb16] (v.toList ++ []) μ' (d + 1) Q)) else (Q none (SH L, mi, ml, MR)) := by
  refine (R_pure0 (ins := .iload_n 1) (len := 1) (loc' := [.ref a, .int x1, xmk]) (st' := [.int x1]) (by decide +kernel) (fun _ => rfl)).trans ?_
  refine (R_pure0 (ins := .aload_n 0) (len := 1) (loc' := [.ref a, .int x1, xmk]) (st' := [.ref a, .int x1]) (by decide +kernel) (fun _ => rfl)).trans ?_
  refine (R_gr (i := 15) (ci := 7) (k := 0) (n := 1) (b := (a + 1)) (by decide +kernel) (by decide +kernel) (by decide) hS_a.1 hS_a.2.1).trans ?_
  refine (R_arraylength (kd := 103) (n := n_a) (by decide +kernel) hS_a.2.2 (by decide)).trans ?_
  refine (R_icmp_ge (off := 24) (t := 32) (by decide +kernel) (by decide +kernel)).trans (ite_congr rfl (fun c0 => ?_) (fun c0 => ?_))
  · refine (R_pure0 (ins := .aload_n 0) (len := 1) (loc' := [.ref a, .int x1, xmk]) (st' := [.ref a]) (by decide +kernel) (fun _ => rfl)).trans ?_
    refine (R_gr (i := 15) (ci := 7) (k := 0) (n := 1) (b := (a + 1)) (by decide +kernel) (by decide +kernel) (by decide) hS_a.1 hS_a.2.1).trans ?_
    refine (R_pure0 (ins := .iload_n 1) (len := 1) (loc' := [.ref a, .int x1, xmk]) (st' := [.int x1, .ref (a + 1)]) (by decide +kernel) (fun _ => rfl)).trans ?_
    refine (R_aaload (kd := 103) (n := n_a) (b := rb16) (by decide +kernel) hS_a.2.2 (by decide) (h1 c0) (h2 c0)).trans ?_
    refine (R_pure0 (ins := .astore_n 2) (len := 1) (loc' := [.ref a, .int x1, .ref rb16]) (st' := []) (by decide +kernel) (fun _ => rfl)).trans ?_
    refine (R_pure0 (ins := .aload_n 2) (len := 1) (loc' := [.ref a, .int x1, .ref rb16]) (st' := [.ref rb16]) (by decide +kernel) (fun _ => rfl)).trans ?_
    refine (R_ifnull_r (off := 7) (by decide +kernel)).trans ?_
    refine (R_pure0 (ins := .aload_n 2) (len := 1) (loc' := [.ref a, .int x1, .ref rb16]) (st' := [.ref rb16]) (by decide +kernel) (fun _ => rfl)).trans ?_
    refine (R_virt (i := 28) (f := 95) (kd := 0) (na := 0) (ml := 1) (ci := 8) (n := 2) (b := rb16) (As := []) (rest := []) (by decide +kernel) (by decide +kernel) (by decide) (by decide +kernel) rfl (by decide +kernel) hS_rb16.1 rfl (by decide +kernel) (Nat.le_of_ble_eq_true rfl)).trans ?_
    rfl
  · exact R_return (by decide +kernel) (by decide +kernel)
theorem s84_26 {L : Nat} {mi : Nat → Nat → Int32} {ml : Nat → Nat → Int64} {d : Nat} {Q : Option Value → xM → Prop} {x1 : Int32} {a r2 : Nat} {n_a : Nat} {n_r2 : Nat} (hS_a : isShelf L a n_a) (hS_r2 : isStrip L r2 n_r2) : X 84 26 [.ref a, .int x1, .ref r2] [] (SH L, mi, ml, MR) d Q =
    X 84 2 [.ref a, .int (x1 + 1), .ref r2] [] (SH L, mi, ml, MR) d Q := by
  refine (R_iinc (k := 1) (n := 1) (x := x1) (v := (x1 + 1)) (loc' := [.ref a, .int (x1 + 1), .ref r2]) (by decide +kernel) rfl rfl rfl).trans ?_
  refine (R_goto (off := (-27)) (t := 2) (by decide +kernel) (by decide +kernel)).trans ?_
  rfl
theorem s84_2v2 {L : Nat} {mi : Nat → Nat → Int32} {ml : Nat → Nat → Int64} {d : Nat} {Q : Option Value → xM → Prop} {x1 : Int32} {a r2 rb16 : Nat} {n_a : Nat} {n_r2 : Nat} {n_rb16 : Nat} (hS_a : isShelf L a n_a) (hS_r2 : isStrip L r2 n_r2) (hS_rb16 : isStrip L rb16 n_rb16) (h1 : (x1 < (Int32.ofNat n_a)) → xin x1 n_a = true) (h2 : (x1 < (Int32.ofNat n_a)) → MR (a + 1) x1.toNatClampNeg = some rb16) : X 84 2 [.ref a, .int x1, .ref r2] [] (SH L, mi, ml, MR) (d + 1) Q =
    if (x1 < (Int32.ofNat n_a)) then (Xm 95 [.ref rb16] (SH L, mi, ml, MR) d (fun v μ' => X 84 26 [.ref a, .int x1, .ref rb16] (v.toList ++ []) μ' (d + 1) Q)) else (Q none (SH L, mi, ml, MR)) := by
  refine (R_pure0 (ins := .iload_n 1) (len := 1) (loc' := [.ref a, .int x1, .ref r2]) (st' := [.int x1]) (by decide +kernel) (fun _ => rfl)).trans ?_
  refine (R_pure0 (ins := .aload_n 0) (len := 1) (loc' := [.ref a, .int x1, .ref r2]) (st' := [.ref a, .int x1]) (by decide +kernel) (fun _ => rfl)).trans ?_
  refine (R_gr (i := 15) (ci := 7) (k := 0) (n := 1) (b := (a + 1)) (by decide +kernel) (by decide +kernel) (by decide) hS_a.1 hS_a.2.1).trans ?_
  refine (R_arraylength (kd := 103) (n := n_a) (by decide +kernel) hS_a.2.2 (by decide)).trans ?_
  refine (R_icmp_ge (off := 24) (t := 32) (by decide +kernel) (by decide +kernel)).trans (ite_congr rfl (fun c0 => ?_) (fun c0 => ?_))
  · refine (R_pure0 (ins := .aload_n 0) (len := 1) (loc' := [.ref a, .int x1, .ref r2]) (st' := [.ref a]) (by decide +kernel) (fun _ => rfl)).trans ?_
    refine (R_gr (i := 15) (ci := 7) (k := 0) (n := 1) (b := (a + 1)) (by decide +kernel) (by decide +kernel) (by decide) hS_a.1 hS_a.2.1).trans ?_
    refine (R_pure0 (ins := .iload_n 1) (len := 1) (loc' := [.ref a, .int x1, .ref r2]) (st' := [.int x1, .ref (a + 1)]) (by decide +kernel) (fun _ => rfl)).trans ?_
    refine (R_aaload (kd := 103) (n := n_a) (b := rb16) (by decide +kernel) hS_a.2.2 (by decide) (h1 c0) (h2 c0)).trans ?_
    refine (R_pure0 (ins := .astore_n 2) (len := 1) (loc' := [.ref a, .int x1, .ref rb16]) (st' := []) (by decide +kernel) (fun _ => rfl)).trans ?_
    refine (R_pure0 (ins := .aload_n 2) (len := 1) (loc' := [.ref a, .int x1, .ref rb16]) (st' := [.ref rb16]) (by decide +kernel) (fun _ => rfl)).trans ?_
    refine (R_ifnull_r (off := 7) (by decide +kernel)).trans ?_
    refine (R_pure0 (ins := .aload_n 2) (len := 1) (loc' := [.ref a, .int x1, .ref rb16]) (st' := [.ref rb16]) (by decide +kernel) (fun _ => rfl)).trans ?_
    refine (R_virt (i := 28) (f := 95) (kd := 0) (na := 0) (ml := 1) (ci := 8) (n := 2) (b := rb16) (As := []) (rest := []) (by decide +kernel) (by decide +kernel) (by decide) (by decide +kernel) rfl (by decide +kernel) hS_rb16.1 rfl (by decide +kernel) (Nat.le_of_ble_eq_true rfl)).trans ?_
    rfl
  · exact R_return (by decide +kernel) (by decide +kernel)
theorem s85 {L : Nat} {mi : Nat → Nat → Int32} {ml : Nat → Nat → Int64} {d : Nat} {Q : Option Value → xM → Prop} {x1 : Int64} {a : Nat} {n_a : Nat} (hS_a : isShelf L a n_a) : Xm 85 [.ref a, .long x1] (SH L, mi, ml, MR) d Q =
    X 85 5 [.ref a, .long x1, xmk, .long x1, xmk, .int 0, xmk, xmk] [] (SH L, mi, ml, MR) d Q := by
  rw [Xm_ent (n := 8) (loc := [.ref a, .long x1, xmk, xmk, xmk, xmk, xmk, xmk]) (by decide +kernel) rfl]
  refine (R_pure0 (ins := .lload_n 1) (len := 1) (loc' := [.ref a, .long x1, xmk, xmk, xmk, xmk, xmk, xmk]) (st' := [.long x1]) (by decide +kernel) (fun _ => rfl)).trans ?_
  refine (R_pure0 (ins := .lstore_n 3) (len := 1) (loc' := [.ref a, .long x1, xmk, .long x1, xmk, xmk, xmk, xmk]) (st' := []) (by decide +kernel) (fun _ => rfl)).trans ?_
  refine (R_iconst (n := 0) (v := 0) (by decide +kernel) (by decide +kernel)).trans ?_
  refine (R_pure0 (ins := .istore 5) (len := 2) (loc' := [.ref a, .long x1, xmk, .long x1, xmk, .int 0, xmk, xmk]) (st' := []) (by decide +kernel) (fun _ => rfl)).trans ?_
  rfl
theorem s85_5 {L : Nat} {mi : Nat → Nat → Int32} {ml : Nat → Nat → Int64} {d : Nat} {Q : Option Value → xM → Prop} {x5 : Int32} {x1 x3 : Int64} {a rb21 : Nat} {n_a : Nat} {n_rb21 : Nat} (hS_a : isShelf L a n_a) (hS_rb21 : isStrip L rb21 n_rb21) (h1 : (x5 < (Int32.ofNat n_a)) → xin x5 n_a = true) (h2 : (x5 < (Int32.ofNat n_a)) → MR (a + 1) x5.toNatClampNeg = some rb21) : X 85 5 [.ref a, .long x1, xmk, .long x3, xmk, .int x5, xmk, xmk] [] (SH L, mi, ml, MR) (d + 1) Q =
    if (x5 < (Int32.ofNat n_a)) then (Xm 88 [.ref rb21] (SH L, mi, ml, MR) d (fun v μ' => X 85 43 [.ref a, .long x1, xmk, .long x3, xmk, .int x5, .ref rb21, xmk] (v.toList ++ [.long (31 * x3)]) μ' (d + 1) Q)) else (Q (some (.long x3)) (SH L, mi, ml, MR)) := by
  refine (R_pure0 (ins := .iload 5) (len := 2) (loc' := [.ref a, .long x1, xmk, .long x3, xmk, .int x5, xmk, xmk]) (st' := [.int x5]) (by decide +kernel) (fun _ => rfl)).trans ?_
  refine (R_pure0 (ins := .aload_n 0) (len := 1) (loc' := [.ref a, .long x1, xmk, .long x3, xmk, .int x5, xmk, xmk]) (st' := [.ref a, .int x5]) (by decide +kernel) (fun _ => rfl)).trans ?_
  refine (R_gr (i := 15) (ci := 7) (k := 0) (n := 1) (b := (a + 1)) (by decide +kernel) (by decide +kernel) (by decide) hS_a.1 hS_a.2.1).trans ?_
  refine (R_arraylength (kd := 103) (n := n_a) (by decide +kernel) hS_a.2.2 (by decide)).trans ?_
  refine (R_icmp_ge (off := 79) (t := 91) (by decide +kernel) (by decide +kernel)).trans (ite_congr rfl (fun c0 => ?_) (fun c0 => ?_))
  · refine (R_pure0 (ins := .aload_n 0) (len := 1) (loc' := [.ref a, .long x1, xmk, .long x3, xmk, .int x5, xmk, xmk]) (st' := [.ref a]) (by decide +kernel) (fun _ => rfl)).trans ?_
    refine (R_gr (i := 15) (ci := 7) (k := 0) (n := 1) (b := (a + 1)) (by decide +kernel) (by decide +kernel) (by decide) hS_a.1 hS_a.2.1).trans ?_
    refine (R_pure0 (ins := .iload 5) (len := 2) (loc' := [.ref a, .long x1, xmk, .long x3, xmk, .int x5, xmk, xmk]) (st' := [.int x5, .ref (a + 1)]) (by decide +kernel) (fun _ => rfl)).trans ?_
    refine (R_aaload (kd := 103) (n := n_a) (b := rb21) (by decide +kernel) hS_a.2.2 (by decide) (h1 c0) (h2 c0)).trans ?_
    refine (R_pure0 (ins := .astore 6) (len := 2) (loc' := [.ref a, .long x1, xmk, .long x3, xmk, .int x5, .ref rb21, xmk]) (st' := []) (by decide +kernel) (fun _ => rfl)).trans ?_
    refine (R_pure0 (ins := .aload 6) (len := 2) (loc' := [.ref a, .long x1, xmk, .long x3, xmk, .int x5, .ref rb21, xmk]) (st' := [.ref rb21]) (by decide +kernel) (fun _ => rfl)).trans ?_
    refine (R_ifnonnull_r (off := 7) (t := 33) (by decide +kernel) (by decide +kernel)).trans ?_
    refine (R_ldc2 (i := 31) (v := 31) (by decide +kernel) (by decide +kernel)).trans ?_
    refine (R_pure0 (ins := .lload_n 3) (len := 1) (loc' := [.ref a, .long x1, xmk, .long x3, xmk, .int x5, .ref rb21, xmk]) (st' := [.long x3, .long 31]) (by decide +kernel) (fun _ => rfl)).trans ?_
    refine (R_pure0 (ins := .lmul) (len := 1) (loc' := [.ref a, .long x1, xmk, .long x3, xmk, .int x5, .ref rb21, xmk]) (st' := [.long (31 * x3)]) (by decide +kernel) (fun _ => rfl)).trans ?_
    refine (R_pure0 (ins := .aload 6) (len := 2) (loc' := [.ref a, .long x1, xmk, .long x3, xmk, .int x5, .ref rb21, xmk]) (st' := [.ref rb21, .long (31 * x3)]) (by decide +kernel) (fun _ => rfl)).trans ?_
    refine (R_virt (i := 33) (f := 88) (kd := 0) (na := 0) (ml := 1) (ci := 8) (n := 2) (b := rb21) (As := []) (rest := [.long (31 * x3)]) (by decide +kernel) (by decide +kernel) (by decide) (by decide +kernel) rfl (by decide +kernel) hS_rb21.1 rfl (by decide +kernel) (Nat.le_of_ble_eq_true rfl)).trans ?_
    rfl
  · refine (R_pure0 (ins := .lload_n 3) (len := 1) (loc' := [.ref a, .long x1, xmk, .long x3, xmk, .int x5, xmk, xmk]) (st' := [.long x3]) (by decide +kernel) (fun _ => rfl)).trans ?_
    exact R_lreturn (by decide +kernel) (by decide +kernel)
theorem s85_43 {L : Nat} {mi : Nat → Nat → Int32} {ml : Nat → Nat → Int64} {d : Nat} {Q : Option Value → xM → Prop} {x5 y : Int32} {x1 x3 z0 : Int64} {a r6 : Nat} {n_a : Nat} {n_r6 : Nat} (hS_a : isShelf L a n_a) (hS_r6 : isStrip L r6 n_r6) : X 85 43 [.ref a, .long x1, xmk, .long x3, xmk, .int x5, .ref r6, xmk] [.int y, .long z0] (SH L, mi, ml, MR) d Q =
    X 85 49 [.ref a, .long x1, xmk, .long (z0 + y.toInt64), xmk, .int x5, .ref r6, .int 0] [] (SH L, mi, ml, MR) d Q := by
  refine (R_pure0 (ins := .i2l) (len := 1) (loc' := [.ref a, .long x1, xmk, .long x3, xmk, .int x5, .ref r6, xmk]) (st' := [.long y.toInt64, .long z0]) (by decide +kernel) (fun _ => rfl)).trans ?_
  refine (R_pure0 (ins := .ladd) (len := 1) (loc' := [.ref a, .long x1, xmk, .long x3, xmk, .int x5, .ref r6, xmk]) (st' := [.long (z0 + y.toInt64)]) (by decide +kernel) (fun _ => rfl)).trans ?_
  refine (R_pure0 (ins := .lstore_n 3) (len := 1) (loc' := [.ref a, .long x1, xmk, .long (z0 + y.toInt64), xmk, .int x5, .ref r6, xmk]) (st' := []) (by decide +kernel) (fun _ => rfl)).trans ?_
  refine (R_iconst (n := 0) (v := 0) (by decide +kernel) (by decide +kernel)).trans ?_
  refine (R_pure0 (ins := .istore 7) (len := 2) (loc' := [.ref a, .long x1, xmk, .long (z0 + y.toInt64), xmk, .int x5, .ref r6, .int 0]) (st' := []) (by decide +kernel) (fun _ => rfl)).trans ?_
  rfl
theorem s85_49 {L : Nat} {mi : Nat → Nat → Int32} {ml : Nat → Nat → Int64} {d : Nat} {Q : Option Value → xM → Prop} {x5 x7 : Int32} {x1 x3 : Int64} {a r6 : Nat} {n_a : Nat} {n_r6 : Nat} (hS_a : isShelf L a n_a) (hS_r6 : isStrip L r6 n_r6) : X 85 49 [.ref a, .long x1, xmk, .long x3, xmk, .int x5, .ref r6, .int x7] [] (SH L, mi, ml, MR) (d + 1) Q =
    Xm 88 [.ref r6] (SH L, mi, ml, MR) d (fun v μ' => X 85 61 [.ref a, .long x1, xmk, .long x3, xmk, .int x5, .ref r6, .int x7] (v.toList ++ [.int x7]) μ' (d + 1) Q) := by
  refine (R_pure0 (ins := .aload 6) (len := 2) (loc' := [.ref a, .long x1, xmk, .long x3, xmk, .int x5, .ref r6, .int x7]) (st' := [.ref r6]) (by decide +kernel) (fun _ => rfl)).trans ?_
  refine (R_ifnull_r (off := 34) (by decide +kernel)).trans ?_
  refine (R_pure0 (ins := .iload 7) (len := 2) (loc' := [.ref a, .long x1, xmk, .long x3, xmk, .int x5, .ref r6, .int x7]) (st' := [.int x7]) (by decide +kernel) (fun _ => rfl)).trans ?_
  refine (R_pure0 (ins := .aload 6) (len := 2) (loc' := [.ref a, .long x1, xmk, .long x3, xmk, .int x5, .ref r6, .int x7]) (st' := [.ref r6, .int x7]) (by decide +kernel) (fun _ => rfl)).trans ?_
  refine (R_virt (i := 33) (f := 88) (kd := 0) (na := 0) (ml := 1) (ci := 8) (n := 2) (b := r6) (As := []) (rest := [.int x7]) (by decide +kernel) (by decide +kernel) (by decide) (by decide +kernel) rfl (by decide +kernel) hS_r6.1 rfl (by decide +kernel) (Nat.le_of_ble_eq_true rfl)).trans ?_
  rfl
theorem s85_61 {L : Nat} {mi : Nat → Nat → Int32} {ml : Nat → Nat → Int64} {d : Nat} {Q : Option Value → xM → Prop} {x5 x7 y z0 : Int32} {x1 x3 : Int64} {a r6 : Nat} {n_a : Nat} {n_r6 : Nat} (hS_a : isShelf L a n_a) (hS_r6 : isStrip L r6 n_r6) : X 85 61 [.ref a, .long x1, xmk, .long x3, xmk, .int x5, .ref r6, .int x7] [.int y, .int z0] (SH L, mi, ml, MR) (d + 1) Q =
    if (z0 < y) then (Xm 90 [.ref r6, .int x7] (SH L, mi, ml, MR) d (fun v μ' => X 85 76 [.ref a, .long x1, xmk, .long x3, xmk, .int x5, .ref r6, .int x7] (v.toList ++ [.long (31 * x3)]) μ' (d + 1) Q)) else (X 85 5 [.ref a, .long x1, xmk, .long x3, xmk, .int (x5 + 1), .ref r6, .int x7] [] (SH L, mi, ml, MR) (d + 1) Q) := by
  refine (R_icmp_ge (off := 24) (t := 85) (by decide +kernel) (by decide +kernel)).trans (ite_congr rfl (fun c0 => ?_) (fun c0 => ?_))
  · refine (R_ldc2 (i := 31) (v := 31) (by decide +kernel) (by decide +kernel)).trans ?_
    refine (R_pure0 (ins := .lload_n 3) (len := 1) (loc' := [.ref a, .long x1, xmk, .long x3, xmk, .int x5, .ref r6, .int x7]) (st' := [.long x3, .long 31]) (by decide +kernel) (fun _ => rfl)).trans ?_
    refine (R_pure0 (ins := .lmul) (len := 1) (loc' := [.ref a, .long x1, xmk, .long x3, xmk, .int x5, .ref r6, .int x7]) (st' := [.long (31 * x3)]) (by decide +kernel) (fun _ => rfl)).trans ?_
    refine (R_pure0 (ins := .aload 6) (len := 2) (loc' := [.ref a, .long x1, xmk, .long x3, xmk, .int x5, .ref r6, .int x7]) (st' := [.ref r6, .long (31 * x3)]) (by decide +kernel) (fun _ => rfl)).trans ?_
    refine (R_pure0 (ins := .iload 7) (len := 2) (loc' := [.ref a, .long x1, xmk, .long x3, xmk, .int x5, .ref r6, .int x7]) (st' := [.int x7, .ref r6, .long (31 * x3)]) (by decide +kernel) (fun _ => rfl)).trans ?_
    refine (R_virt (i := 37) (f := 90) (kd := 0) (na := 1) (ml := 2) (ci := 8) (n := 2) (b := r6) (As := [.int x7]) (rest := [.long (31 * x3)]) (by decide +kernel) (by decide +kernel) (by decide) (by decide +kernel) rfl (by decide +kernel) hS_r6.1 rfl (by decide +kernel) (Nat.le_of_ble_eq_true rfl)).trans ?_
    rfl
  · refine (R_iinc (k := 5) (n := 1) (x := x5) (v := (x5 + 1)) (loc' := [.ref a, .long x1, xmk, .long x3, xmk, .int (x5 + 1), .ref r6, .int x7]) (by decide +kernel) rfl rfl rfl).trans ?_
    refine (R_goto (off := (-83)) (t := 5) (by decide +kernel) (by decide +kernel)).trans ?_
    rfl
theorem s85_76 {L : Nat} {mi : Nat → Nat → Int32} {ml : Nat → Nat → Int64} {d : Nat} {Q : Option Value → xM → Prop} {x5 x7 y : Int32} {x1 x3 z0 : Int64} {a r6 : Nat} {n_a : Nat} {n_r6 : Nat} (hS_a : isShelf L a n_a) (hS_r6 : isStrip L r6 n_r6) : X 85 76 [.ref a, .long x1, xmk, .long x3, xmk, .int x5, .ref r6, .int x7] [.int y, .long z0] (SH L, mi, ml, MR) d Q =
    X 85 49 [.ref a, .long x1, xmk, .long (z0 + y.toInt64), xmk, .int x5, .ref r6, .int (x7 + 1)] [] (SH L, mi, ml, MR) d Q := by
  refine (R_pure0 (ins := .i2l) (len := 1) (loc' := [.ref a, .long x1, xmk, .long x3, xmk, .int x5, .ref r6, .int x7]) (st' := [.long y.toInt64, .long z0]) (by decide +kernel) (fun _ => rfl)).trans ?_
  refine (R_pure0 (ins := .ladd) (len := 1) (loc' := [.ref a, .long x1, xmk, .long x3, xmk, .int x5, .ref r6, .int x7]) (st' := [.long (z0 + y.toInt64)]) (by decide +kernel) (fun _ => rfl)).trans ?_
  refine (R_pure0 (ins := .lstore_n 3) (len := 1) (loc' := [.ref a, .long x1, xmk, .long (z0 + y.toInt64), xmk, .int x5, .ref r6, .int x7]) (st' := []) (by decide +kernel) (fun _ => rfl)).trans ?_
  refine (R_iinc (k := 7) (n := 1) (x := x7) (v := (x7 + 1)) (loc' := [.ref a, .long x1, xmk, .long (z0 + y.toInt64), xmk, .int x5, .ref r6, .int (x7 + 1)]) (by decide +kernel) rfl rfl rfl).trans ?_
  refine (R_goto (off := (-33)) (t := 49) (by decide +kernel) (by decide +kernel)).trans ?_
  rfl
theorem s85_5v2 {L : Nat} {mi : Nat → Nat → Int32} {ml : Nat → Nat → Int64} {d : Nat} {Q : Option Value → xM → Prop} {x5 x7 : Int32} {x1 x3 : Int64} {a r6 rb21 : Nat} {n_a : Nat} {n_r6 : Nat} {n_rb21 : Nat} (hS_a : isShelf L a n_a) (hS_r6 : isStrip L r6 n_r6) (hS_rb21 : isStrip L rb21 n_rb21) (h1 : (x5 < (Int32.ofNat n_a)) → xin x5 n_a = true) (h2 : (x5 < (Int32.ofNat n_a)) → MR (a + 1) x5.toNatClampNeg = some rb21) : X 85 5 [.ref a, .long x1, xmk, .long x3, xmk, .int x5, .ref r6, .int x7] [] (SH L, mi, ml, MR) (d + 1) Q =
    if (x5 < (Int32.ofNat n_a)) then (Xm 88 [.ref rb21] (SH L, mi, ml, MR) d (fun v μ' => X 85 43 [.ref a, .long x1, xmk, .long x3, xmk, .int x5, .ref rb21, .int x7] (v.toList ++ [.long (31 * x3)]) μ' (d + 1) Q)) else (Q (some (.long x3)) (SH L, mi, ml, MR)) := by
  refine (R_pure0 (ins := .iload 5) (len := 2) (loc' := [.ref a, .long x1, xmk, .long x3, xmk, .int x5, .ref r6, .int x7]) (st' := [.int x5]) (by decide +kernel) (fun _ => rfl)).trans ?_
  refine (R_pure0 (ins := .aload_n 0) (len := 1) (loc' := [.ref a, .long x1, xmk, .long x3, xmk, .int x5, .ref r6, .int x7]) (st' := [.ref a, .int x5]) (by decide +kernel) (fun _ => rfl)).trans ?_
  refine (R_gr (i := 15) (ci := 7) (k := 0) (n := 1) (b := (a + 1)) (by decide +kernel) (by decide +kernel) (by decide) hS_a.1 hS_a.2.1).trans ?_
  refine (R_arraylength (kd := 103) (n := n_a) (by decide +kernel) hS_a.2.2 (by decide)).trans ?_
  refine (R_icmp_ge (off := 79) (t := 91) (by decide +kernel) (by decide +kernel)).trans (ite_congr rfl (fun c0 => ?_) (fun c0 => ?_))
  · refine (R_pure0 (ins := .aload_n 0) (len := 1) (loc' := [.ref a, .long x1, xmk, .long x3, xmk, .int x5, .ref r6, .int x7]) (st' := [.ref a]) (by decide +kernel) (fun _ => rfl)).trans ?_
    refine (R_gr (i := 15) (ci := 7) (k := 0) (n := 1) (b := (a + 1)) (by decide +kernel) (by decide +kernel) (by decide) hS_a.1 hS_a.2.1).trans ?_
    refine (R_pure0 (ins := .iload 5) (len := 2) (loc' := [.ref a, .long x1, xmk, .long x3, xmk, .int x5, .ref r6, .int x7]) (st' := [.int x5, .ref (a + 1)]) (by decide +kernel) (fun _ => rfl)).trans ?_
    refine (R_aaload (kd := 103) (n := n_a) (b := rb21) (by decide +kernel) hS_a.2.2 (by decide) (h1 c0) (h2 c0)).trans ?_
    refine (R_pure0 (ins := .astore 6) (len := 2) (loc' := [.ref a, .long x1, xmk, .long x3, xmk, .int x5, .ref rb21, .int x7]) (st' := []) (by decide +kernel) (fun _ => rfl)).trans ?_
    refine (R_pure0 (ins := .aload 6) (len := 2) (loc' := [.ref a, .long x1, xmk, .long x3, xmk, .int x5, .ref rb21, .int x7]) (st' := [.ref rb21]) (by decide +kernel) (fun _ => rfl)).trans ?_
    refine (R_ifnonnull_r (off := 7) (t := 33) (by decide +kernel) (by decide +kernel)).trans ?_
    refine (R_ldc2 (i := 31) (v := 31) (by decide +kernel) (by decide +kernel)).trans ?_
    refine (R_pure0 (ins := .lload_n 3) (len := 1) (loc' := [.ref a, .long x1, xmk, .long x3, xmk, .int x5, .ref rb21, .int x7]) (st' := [.long x3, .long 31]) (by decide +kernel) (fun _ => rfl)).trans ?_
    refine (R_pure0 (ins := .lmul) (len := 1) (loc' := [.ref a, .long x1, xmk, .long x3, xmk, .int x5, .ref rb21, .int x7]) (st' := [.long (31 * x3)]) (by decide +kernel) (fun _ => rfl)).trans ?_
    refine (R_pure0 (ins := .aload 6) (len := 2) (loc' := [.ref a, .long x1, xmk, .long x3, xmk, .int x5, .ref rb21, .int x7]) (st' := [.ref rb21, .long (31 * x3)]) (by decide +kernel) (fun _ => rfl)).trans ?_
    refine (R_virt (i := 33) (f := 88) (kd := 0) (na := 0) (ml := 1) (ci := 8) (n := 2) (b := rb21) (As := []) (rest := [.long (31 * x3)]) (by decide +kernel) (by decide +kernel) (by decide) (by decide +kernel) rfl (by decide +kernel) hS_rb21.1 rfl (by decide +kernel) (Nat.le_of_ble_eq_true rfl)).trans ?_
    rfl
  · refine (R_pure0 (ins := .lload_n 3) (len := 1) (loc' := [.ref a, .long x1, xmk, .long x3, xmk, .int x5, .ref r6, .int x7]) (st' := [.long x3]) (by decide +kernel) (fun _ => rfl)).trans ?_
    exact R_lreturn (by decide +kernel) (by decide +kernel)
theorem s85_43v2 {L : Nat} {mi : Nat → Nat → Int32} {ml : Nat → Nat → Int64} {d : Nat} {Q : Option Value → xM → Prop} {x5 x7 y : Int32} {x1 x3 z0 : Int64} {a r6 : Nat} {n_a : Nat} {n_r6 : Nat} (hS_a : isShelf L a n_a) (hS_r6 : isStrip L r6 n_r6) : X 85 43 [.ref a, .long x1, xmk, .long x3, xmk, .int x5, .ref r6, .int x7] [.int y, .long z0] (SH L, mi, ml, MR) d Q =
    X 85 49 [.ref a, .long x1, xmk, .long (z0 + y.toInt64), xmk, .int x5, .ref r6, .int 0] [] (SH L, mi, ml, MR) d Q := by
  refine (R_pure0 (ins := .i2l) (len := 1) (loc' := [.ref a, .long x1, xmk, .long x3, xmk, .int x5, .ref r6, .int x7]) (st' := [.long y.toInt64, .long z0]) (by decide +kernel) (fun _ => rfl)).trans ?_
  refine (R_pure0 (ins := .ladd) (len := 1) (loc' := [.ref a, .long x1, xmk, .long x3, xmk, .int x5, .ref r6, .int x7]) (st' := [.long (z0 + y.toInt64)]) (by decide +kernel) (fun _ => rfl)).trans ?_
  refine (R_pure0 (ins := .lstore_n 3) (len := 1) (loc' := [.ref a, .long x1, xmk, .long (z0 + y.toInt64), xmk, .int x5, .ref r6, .int x7]) (st' := []) (by decide +kernel) (fun _ => rfl)).trans ?_
  refine (R_iconst (n := 0) (v := 0) (by decide +kernel) (by decide +kernel)).trans ?_
  refine (R_pure0 (ins := .istore 7) (len := 2) (loc' := [.ref a, .long x1, xmk, .long (z0 + y.toInt64), xmk, .int x5, .ref r6, .int 0]) (st' := []) (by decide +kernel) (fun _ => rfl)).trans ?_
  rfl
theorem s87 {L : Nat} {mi : Nat → Nat → Int32} {ml : Nat → Nat → Int64} {d : Nat} {Q : Option Value → xM → Prop} {a : Nat} {n_a : Nat} (hS_a : isStrip L a n_a) : Xm 87 [.ref a] (SH L, mi, ml, MR) d Q =
    if ((mi a 1) < 0) then (Q (some (.int 1)) (SH L, mi, ml, MR)) else (Q (some (.int 0)) (SH L, mi, ml, MR)) := by
  rw [Xm_ent (n := 1) (loc := [.ref a]) (by decide +kernel) rfl]
  refine (R_pure0 (ins := .aload_n 0) (len := 1) (loc' := [.ref a]) (st' := [.ref a]) (by decide +kernel) (fun _ => rfl)).trans ?_
  refine (R_gi (i := 7) (ci := 8) (k := 1) (n := 2) (by decide +kernel) (by decide +kernel) (by decide) hS_a.1).trans ?_
  refine (R_if_ge (off := 7) (t := 11) (by decide +kernel) (by decide +kernel)).trans (ite_congr rfl (fun c0 => ?_) (fun c0 => ?_))
  · refine (R_iconst (n := 1) (v := 1) (by decide +kernel) (by decide +kernel)).trans ?_
    refine (R_goto (off := 4) (t := 12) (by decide +kernel) (by decide +kernel)).trans ?_
    exact R_zreturn (by decide +kernel) (by decide +kernel) (by decide)
  · refine (R_iconst (n := 0) (v := 0) (by decide +kernel) (by decide +kernel)).trans ?_
    exact R_zreturn (by decide +kernel) (by decide +kernel) (by decide)
theorem s88 {L : Nat} {mi : Nat → Nat → Int32} {ml : Nat → Nat → Int64} {d : Nat} {Q : Option Value → xM → Prop} {a : Nat} {n_a : Nat} (hS_a : isStrip L a n_a) : Xm 88 [.ref a] (SH L, mi, ml, MR) d Q =
    Q (some (.int (mi a 1))) (SH L, mi, ml, MR) := by
  rw [Xm_ent (n := 1) (loc := [.ref a]) (by decide +kernel) rfl]
  refine (R_pure0 (ins := .aload_n 0) (len := 1) (loc' := [.ref a]) (st' := [.ref a]) (by decide +kernel) (fun _ => rfl)).trans ?_
  refine (R_gi (i := 7) (ci := 8) (k := 1) (n := 2) (by decide +kernel) (by decide +kernel) (by decide) hS_a.1).trans ?_
  exact R_ireturn (by decide +kernel) (by decide +kernel)
theorem s89 {L : Nat} {mi : Nat → Nat → Int32} {ml : Nat → Nat → Int64} {d : Nat} {Q : Option Value → xM → Prop} {x1 x2 : Int32} {a : Nat} {n_a : Nat} (hS_a : isStrip L a n_a) : Xm 89 [.ref a, .int x1, .int x2] (SH L, mi, ml, MR) d Q =
    if (x2 < 0) then (Q (some (.int 0)) (SH L, mi, ml, MR)) else (if (x1 < 0) then (Q (some (.int 0)) (SH L, mi, ml, MR)) else (if ((mi a 1) < x2) then (Q (some (.int 0)) (SH L, mi, ml, MR)) else (if (((mi a 1) - x2) < x1) then (Q (some (.int 0)) (SH L, mi, ml, MR)) else (Q (some (.int 1)) (SH L, mi, ml, MR))))) := by
  rw [Xm_ent (n := 3) (loc := [.ref a, .int x1, .int x2]) (by decide +kernel) rfl]
  refine (R_pure0 (ins := .iload_n 2) (len := 1) (loc' := [.ref a, .int x1, .int x2]) (st' := [.int x2]) (by decide +kernel) (fun _ => rfl)).trans ?_
  refine (R_if_lt (off := 29) (t := 30) (by decide +kernel) (by decide +kernel)).trans (ite_congr rfl (fun c0 => ?_) (fun c0 => ?_))
  · refine (R_iconst (n := 0) (v := 0) (by decide +kernel) (by decide +kernel)).trans ?_
    exact R_zreturn (by decide +kernel) (by decide +kernel) (by decide)
  · refine (R_pure0 (ins := .iload_n 1) (len := 1) (loc' := [.ref a, .int x1, .int x2]) (st' := [.int x1]) (by decide +kernel) (fun _ => rfl)).trans ?_
    refine (R_if_lt (off := 25) (t := 30) (by decide +kernel) (by decide +kernel)).trans (ite_congr rfl (fun c1 => ?_) (fun c1 => ?_))
    · refine (R_iconst (n := 0) (v := 0) (by decide +kernel) (by decide +kernel)).trans ?_
      exact R_zreturn (by decide +kernel) (by decide +kernel) (by decide)
    · refine (R_pure0 (ins := .iload_n 2) (len := 1) (loc' := [.ref a, .int x1, .int x2]) (st' := [.int x2]) (by decide +kernel) (fun _ => rfl)).trans ?_
      refine (R_pure0 (ins := .aload_n 0) (len := 1) (loc' := [.ref a, .int x1, .int x2]) (st' := [.ref a, .int x2]) (by decide +kernel) (fun _ => rfl)).trans ?_
      refine (R_gi (i := 7) (ci := 8) (k := 1) (n := 2) (by decide +kernel) (by decide +kernel) (by decide) hS_a.1).trans ?_
      refine (R_icmp_gt (off := 17) (t := 30) (by decide +kernel) (by decide +kernel)).trans (ite_congr rfl (fun c2 => ?_) (fun c2 => ?_))
      · refine (R_iconst (n := 0) (v := 0) (by decide +kernel) (by decide +kernel)).trans ?_
        exact R_zreturn (by decide +kernel) (by decide +kernel) (by decide)
      · refine (R_pure0 (ins := .iload_n 1) (len := 1) (loc' := [.ref a, .int x1, .int x2]) (st' := [.int x1]) (by decide +kernel) (fun _ => rfl)).trans ?_
        refine (R_pure0 (ins := .aload_n 0) (len := 1) (loc' := [.ref a, .int x1, .int x2]) (st' := [.ref a, .int x1]) (by decide +kernel) (fun _ => rfl)).trans ?_
        refine (R_gi (i := 7) (ci := 8) (k := 1) (n := 2) (by decide +kernel) (by decide +kernel) (by decide) hS_a.1).trans ?_
        refine (R_pure0 (ins := .iload_n 2) (len := 1) (loc' := [.ref a, .int x1, .int x2]) (st' := [.int x2, .int (mi a 1), .int x1]) (by decide +kernel) (fun _ => rfl)).trans ?_
        refine (R_pure0 (ins := .isub) (len := 1) (loc' := [.ref a, .int x1, .int x2]) (st' := [.int ((mi a 1) - x2), .int x1]) (by decide +kernel) (fun _ => rfl)).trans ?_
        refine (R_icmp_gt (off := 7) (t := 30) (by decide +kernel) (by decide +kernel)).trans (ite_congr rfl (fun c3 => ?_) (fun c3 => ?_))
        · refine (R_iconst (n := 0) (v := 0) (by decide +kernel) (by decide +kernel)).trans ?_
          exact R_zreturn (by decide +kernel) (by decide +kernel) (by decide)
        · refine (R_iconst (n := 1) (v := 1) (by decide +kernel) (by decide +kernel)).trans ?_
          refine (R_goto (off := 4) (t := 31) (by decide +kernel) (by decide +kernel)).trans ?_
          exact R_zreturn (by decide +kernel) (by decide +kernel) (by decide)
theorem s90 {L : Nat} {mi : Nat → Nat → Int32} {ml : Nat → Nat → Int64} {d : Nat} {Q : Option Value → xM → Prop} {x1 : Int32} {a : Nat} {n_a : Nat} (hS_a : isStrip L a n_a) (h1 : ¬ (x1 < 0) → (x1 < (mi a 1)) → (x1 < (Int32.ofNat n_a)) → xin x1 n_a = true) : Xm 90 [.ref a, .int x1] (SH L, mi, ml, MR) d Q =
    if (x1 < 0) then (Q (some (.int 0)) (SH L, mi, ml, MR)) else (if (x1 < (mi a 1)) then (if (x1 < (Int32.ofNat n_a)) then (Q (some (.int (mi (a + 1) x1.toNatClampNeg))) (SH L, mi, ml, MR)) else (Q (some (.int 0)) (SH L, mi, ml, MR))) else (Q (some (.int 0)) (SH L, mi, ml, MR))) := by
  rw [Xm_ent (n := 2) (loc := [.ref a, .int x1]) (by decide +kernel) rfl]
  refine (R_pure0 (ins := .iload_n 1) (len := 1) (loc' := [.ref a, .int x1]) (st' := [.int x1]) (by decide +kernel) (fun _ => rfl)).trans ?_
  refine (R_if_lt (off := 29) (t := 30) (by decide +kernel) (by decide +kernel)).trans (ite_congr rfl (fun c0 => ?_) (fun c0 => ?_))
  · refine (R_iconst (n := 0) (v := 0) (by decide +kernel) (by decide +kernel)).trans ?_
    exact R_ireturn (by decide +kernel) (by decide +kernel)
  · refine (R_pure0 (ins := .iload_n 1) (len := 1) (loc' := [.ref a, .int x1]) (st' := [.int x1]) (by decide +kernel) (fun _ => rfl)).trans ?_
    refine (R_pure0 (ins := .aload_n 0) (len := 1) (loc' := [.ref a, .int x1]) (st' := [.ref a, .int x1]) (by decide +kernel) (fun _ => rfl)).trans ?_
    refine (R_gi (i := 7) (ci := 8) (k := 1) (n := 2) (by decide +kernel) (by decide +kernel) (by decide) hS_a.1).trans ?_
    refine (R_icmp_ge (off := 21) (t := 30) (by decide +kernel) (by decide +kernel)).trans (ite_congr rfl (fun c1 => ?_) (fun c1 => ?_))
    · refine (R_pure0 (ins := .iload_n 1) (len := 1) (loc' := [.ref a, .int x1]) (st' := [.int x1]) (by decide +kernel) (fun _ => rfl)).trans ?_
      refine (R_pure0 (ins := .aload_n 0) (len := 1) (loc' := [.ref a, .int x1]) (st' := [.ref a, .int x1]) (by decide +kernel) (fun _ => rfl)).trans ?_
      refine (R_gr (i := 19) (ci := 8) (k := 0) (n := 2) (b := (a + 1)) (by decide +kernel) (by decide +kernel) (by decide) hS_a.1 hS_a.2.1).trans ?_
      refine (R_arraylength (kd := 100) (n := n_a) (by decide +kernel) hS_a.2.2 (by decide)).trans ?_
      refine (R_icmp_ge (off := 12) (t := 30) (by decide +kernel) (by decide +kernel)).trans (ite_congr rfl (fun c2 => ?_) (fun c2 => ?_))
      · refine (R_pure0 (ins := .aload_n 0) (len := 1) (loc' := [.ref a, .int x1]) (st' := [.ref a]) (by decide +kernel) (fun _ => rfl)).trans ?_
        refine (R_gr (i := 19) (ci := 8) (k := 0) (n := 2) (b := (a + 1)) (by decide +kernel) (by decide +kernel) (by decide) hS_a.1 hS_a.2.1).trans ?_
        refine (R_pure0 (ins := .iload_n 1) (len := 1) (loc' := [.ref a, .int x1]) (st' := [.int x1, .ref (a + 1)]) (by decide +kernel) (fun _ => rfl)).trans ?_
        refine (R_iaload (kd := 100) (n := n_a) (by decide +kernel) hS_a.2.2 (by decide) (h1 c0 c1 c2)).trans ?_
        refine (R_goto (off := 4) (t := 31) (by decide +kernel) (by decide +kernel)).trans ?_
        exact R_ireturn (by decide +kernel) (by decide +kernel)
      · refine (R_iconst (n := 0) (v := 0) (by decide +kernel) (by decide +kernel)).trans ?_
        exact R_ireturn (by decide +kernel) (by decide +kernel)
    · refine (R_iconst (n := 0) (v := 0) (by decide +kernel) (by decide +kernel)).trans ?_
      exact R_ireturn (by decide +kernel) (by decide +kernel)
theorem s91 {L : Nat} {mi : Nat → Nat → Int32} {ml : Nat → Nat → Int64} {d : Nat} {Q : Option Value → xM → Prop} {x1 x2 : Int32} {a : Nat} {n_a : Nat} (hS_a : isStrip L a n_a) (h1 : ¬ (x1 < 0) → (x1 < (mi a 1)) → (x1 < (Int32.ofNat n_a)) → xin x1 n_a = true) : Xm 91 [.ref a, .int x1, .int x2] (SH L, mi, ml, MR) d Q =
    if (x1 < 0) then (Q none (SH L, mi, ml, MR)) else (if (x1 < (mi a 1)) then (if (x1 < (Int32.ofNat n_a)) then (Q none (SH L, (xw mi (a + 1) x1.toNatClampNeg x2), ml, MR)) else (Q none (SH L, mi, ml, MR))) else (Q none (SH L, mi, ml, MR))) := by
  rw [Xm_ent (n := 3) (loc := [.ref a, .int x1, .int x2]) (by decide +kernel) rfl]
  refine (R_pure0 (ins := .iload_n 1) (len := 1) (loc' := [.ref a, .int x1, .int x2]) (st' := [.int x1]) (by decide +kernel) (fun _ => rfl)).trans ?_
  refine (R_if_lt (off := 27) (t := 28) (by decide +kernel) (by decide +kernel)).trans (ite_congr rfl (fun c0 => ?_) (fun c0 => ?_))
  · exact R_return (by decide +kernel) (by decide +kernel)
  · refine (R_pure0 (ins := .iload_n 1) (len := 1) (loc' := [.ref a, .int x1, .int x2]) (st' := [.int x1]) (by decide +kernel) (fun _ => rfl)).trans ?_
    refine (R_pure0 (ins := .aload_n 0) (len := 1) (loc' := [.ref a, .int x1, .int x2]) (st' := [.ref a, .int x1]) (by decide +kernel) (fun _ => rfl)).trans ?_
    refine (R_gi (i := 7) (ci := 8) (k := 1) (n := 2) (by decide +kernel) (by decide +kernel) (by decide) hS_a.1).trans ?_
    refine (R_icmp_ge (off := 19) (t := 28) (by decide +kernel) (by decide +kernel)).trans (ite_congr rfl (fun c1 => ?_) (fun c1 => ?_))
    · refine (R_pure0 (ins := .iload_n 1) (len := 1) (loc' := [.ref a, .int x1, .int x2]) (st' := [.int x1]) (by decide +kernel) (fun _ => rfl)).trans ?_
      refine (R_pure0 (ins := .aload_n 0) (len := 1) (loc' := [.ref a, .int x1, .int x2]) (st' := [.ref a, .int x1]) (by decide +kernel) (fun _ => rfl)).trans ?_
      refine (R_gr (i := 19) (ci := 8) (k := 0) (n := 2) (b := (a + 1)) (by decide +kernel) (by decide +kernel) (by decide) hS_a.1 hS_a.2.1).trans ?_
      refine (R_arraylength (kd := 100) (n := n_a) (by decide +kernel) hS_a.2.2 (by decide)).trans ?_
      refine (R_icmp_ge (off := 10) (t := 28) (by decide +kernel) (by decide +kernel)).trans (ite_congr rfl (fun c2 => ?_) (fun c2 => ?_))
      · refine (R_pure0 (ins := .aload_n 0) (len := 1) (loc' := [.ref a, .int x1, .int x2]) (st' := [.ref a]) (by decide +kernel) (fun _ => rfl)).trans ?_
        refine (R_gr (i := 19) (ci := 8) (k := 0) (n := 2) (b := (a + 1)) (by decide +kernel) (by decide +kernel) (by decide) hS_a.1 hS_a.2.1).trans ?_
        refine (R_pure0 (ins := .iload_n 1) (len := 1) (loc' := [.ref a, .int x1, .int x2]) (st' := [.int x1, .ref (a + 1)]) (by decide +kernel) (fun _ => rfl)).trans ?_
        refine (R_pure0 (ins := .iload_n 2) (len := 1) (loc' := [.ref a, .int x1, .int x2]) (st' := [.int x2, .int x1, .ref (a + 1)]) (by decide +kernel) (fun _ => rfl)).trans ?_
        refine (R_iastore (n := n_a) (by decide +kernel) hS_a.2.2 (h1 c0 c1 c2)).trans ?_
        exact R_return (by decide +kernel) (by decide +kernel)
      · exact R_return (by decide +kernel) (by decide +kernel)
    · exact R_return (by decide +kernel) (by decide +kernel)
theorem s92 {L : Nat} {mi : Nat → Nat → Int32} {ml : Nat → Nat → Int64} {d : Nat} {Q : Option Value → xM → Prop} {x1 x2 : Int32} {a : Nat} {n_a : Nat} (hS_a : isStrip L a n_a) : Xm 92 [.ref a, .int x1, .int x2] (SH L, mi, ml, MR) d Q =
    X 92 19 [.ref a, .int x1, .int x2, .int 0] [] (SH L, (xw mi a 1 (if 0 < (if (Int32.ofNat n_a) < x1 then (Int32.ofNat n_a) else x1) then (if (Int32.ofNat n_a) < x1 then (Int32.ofNat n_a) else x1) else 0)), ml, MR) d Q := by
  rw [Xm_ent (n := 4) (loc := [.ref a, .int x1, .int x2, xmk]) (by decide +kernel) rfl]
  refine (R_pure0 (ins := .aload_n 0) (len := 1) (loc' := [.ref a, .int x1, .int x2, xmk]) (st' := [.ref a]) (by decide +kernel) (fun _ => rfl)).trans ?_
  refine (R_iconst (n := 0) (v := 0) (by decide +kernel) (by decide +kernel)).trans ?_
  refine (R_pure0 (ins := .iload_n 1) (len := 1) (loc' := [.ref a, .int x1, .int x2, xmk]) (st' := [.int x1, .int 0, .ref a]) (by decide +kernel) (fun _ => rfl)).trans ?_
  refine (R_pure0 (ins := .aload_n 0) (len := 1) (loc' := [.ref a, .int x1, .int x2, xmk]) (st' := [.ref a, .int x1, .int 0, .ref a]) (by decide +kernel) (fun _ => rfl)).trans ?_
  refine (R_gr (i := 19) (ci := 8) (k := 0) (n := 2) (b := (a + 1)) (by decide +kernel) (by decide +kernel) (by decide) hS_a.1 hS_a.2.1).trans ?_
  refine (R_arraylength (kd := 100) (n := n_a) (by decide +kernel) hS_a.2.2 (by decide)).trans ?_
  refine (R_min (i := 23) (f := 0) (x := x1) (y := (Int32.ofNat n_a)) (by decide +kernel) (by decide +kernel) rfl).trans ?_
  refine (R_max (i := 13) (f := 0) (x := 0) (y := (if (Int32.ofNat n_a) < x1 then (Int32.ofNat n_a) else x1)) (by decide +kernel) (by decide +kernel) rfl).trans ?_
  refine (R_pi (i := 7) (ci := 8) (k := 1) (n := 2) (by decide +kernel) (by decide +kernel) (by decide) hS_a.1).trans ?_
  refine (R_iconst (n := 0) (v := 0) (by decide +kernel) (by decide +kernel)).trans ?_
  refine (R_pure0 (ins := .istore_n 3) (len := 1) (loc' := [.ref a, .int x1, .int x2, .int 0]) (st' := []) (by decide +kernel) (fun _ => rfl)).trans ?_
  rfl
theorem s92_19 {L : Nat} {mi : Nat → Nat → Int32} {ml : Nat → Nat → Int64} {d : Nat} {Q : Option Value → xM → Prop} {x1 x2 x3 : Int32} {a : Nat} {n_a : Nat} (hS_a : isStrip L a n_a) (h1 : (x3 < (mi a 1)) → (x3 < (Int32.ofNat n_a)) → xin x3 n_a = true) : X 92 19 [.ref a, .int x1, .int x2, .int x3] [] (SH L, mi, ml, MR) d Q =
    if (x3 < (mi a 1)) then (if (x3 < (Int32.ofNat n_a)) then (X 92 19 [.ref a, .int x1, .int x2, .int (x3 + 1)] [] (SH L, (xw mi (a + 1) x3.toNatClampNeg x2), ml, MR) d Q) else (Q none (SH L, mi, ml, MR))) else (Q none (SH L, mi, ml, MR)) := by
  refine (R_pure0 (ins := .iload_n 3) (len := 1) (loc' := [.ref a, .int x1, .int x2, .int x3]) (st' := [.int x3]) (by decide +kernel) (fun _ => rfl)).trans ?_
  refine (R_pure0 (ins := .aload_n 0) (len := 1) (loc' := [.ref a, .int x1, .int x2, .int x3]) (st' := [.ref a, .int x3]) (by decide +kernel) (fun _ => rfl)).trans ?_
  refine (R_gi (i := 7) (ci := 8) (k := 1) (n := 2) (by decide +kernel) (by decide +kernel) (by decide) hS_a.1).trans ?_
  refine (R_icmp_ge (off := 25) (t := 49) (by decide +kernel) (by decide +kernel)).trans (ite_congr rfl (fun c0 => ?_) (fun c0 => ?_))
  · refine (R_pure0 (ins := .iload_n 3) (len := 1) (loc' := [.ref a, .int x1, .int x2, .int x3]) (st' := [.int x3]) (by decide +kernel) (fun _ => rfl)).trans ?_
    refine (R_pure0 (ins := .aload_n 0) (len := 1) (loc' := [.ref a, .int x1, .int x2, .int x3]) (st' := [.ref a, .int x3]) (by decide +kernel) (fun _ => rfl)).trans ?_
    refine (R_gr (i := 19) (ci := 8) (k := 0) (n := 2) (b := (a + 1)) (by decide +kernel) (by decide +kernel) (by decide) hS_a.1 hS_a.2.1).trans ?_
    refine (R_arraylength (kd := 100) (n := n_a) (by decide +kernel) hS_a.2.2 (by decide)).trans ?_
    refine (R_icmp_ge (off := 16) (t := 49) (by decide +kernel) (by decide +kernel)).trans (ite_congr rfl (fun c1 => ?_) (fun c1 => ?_))
    · refine (R_pure0 (ins := .aload_n 0) (len := 1) (loc' := [.ref a, .int x1, .int x2, .int x3]) (st' := [.ref a]) (by decide +kernel) (fun _ => rfl)).trans ?_
      refine (R_gr (i := 19) (ci := 8) (k := 0) (n := 2) (b := (a + 1)) (by decide +kernel) (by decide +kernel) (by decide) hS_a.1 hS_a.2.1).trans ?_
      refine (R_pure0 (ins := .iload_n 3) (len := 1) (loc' := [.ref a, .int x1, .int x2, .int x3]) (st' := [.int x3, .ref (a + 1)]) (by decide +kernel) (fun _ => rfl)).trans ?_
      refine (R_pure0 (ins := .iload_n 2) (len := 1) (loc' := [.ref a, .int x1, .int x2, .int x3]) (st' := [.int x2, .int x3, .ref (a + 1)]) (by decide +kernel) (fun _ => rfl)).trans ?_
      refine (R_iastore (n := n_a) (by decide +kernel) hS_a.2.2 (h1 c0 c1)).trans ?_
      refine (R_iinc (k := 3) (n := 1) (x := x3) (v := (x3 + 1)) (loc' := [.ref a, .int x1, .int x2, .int (x3 + 1)]) (by decide +kernel) rfl rfl rfl).trans ?_
      refine (R_goto (off := (-27)) (t := 19) (by decide +kernel) (by decide +kernel)).trans ?_
      rfl
    · exact R_return (by decide +kernel) (by decide +kernel)
  · exact R_return (by decide +kernel) (by decide +kernel)
theorem s93 {L : Nat} {mi : Nat → Nat → Int32} {ml : Nat → Nat → Int64} {d : Nat} {Q : Option Value → xM → Prop} {x1 : Int32} {a : Nat} {n_a : Nat} (hS_a : isStrip L a n_a) (h1 : ¬ ((mi a 1) < 0) → ((mi a 1) < (Int32.ofNat n_a)) → xin (mi a 1) n_a = true) : Xm 93 [.ref a, .int x1] (SH L, mi, ml, MR) d Q =
    if ((mi a 1) < 0) then (Q none (SH L, mi, ml, MR)) else (if ((mi a 1) < (Int32.ofNat n_a)) then (Q none (SH L, (xw (xw mi (a + 1) (mi a 1).toNatClampNeg x1) a 1 (((xw mi (a + 1) (mi a 1).toNatClampNeg x1) a 1) + 1)), ml, MR)) else (Q none (SH L, mi, ml, MR))) := by
  rw [Xm_ent (n := 2) (loc := [.ref a, .int x1]) (by decide +kernel) rfl]
  refine (R_pure0 (ins := .aload_n 0) (len := 1) (loc' := [.ref a, .int x1]) (st' := [.ref a]) (by decide +kernel) (fun _ => rfl)).trans ?_
  refine (R_gi (i := 7) (ci := 8) (k := 1) (n := 2) (by decide +kernel) (by decide +kernel) (by decide) hS_a.1).trans ?_
  refine (R_if_lt (off := 35) (t := 39) (by decide +kernel) (by decide +kernel)).trans (ite_congr rfl (fun c0 => ?_) (fun c0 => ?_))
  · exact R_return (by decide +kernel) (by decide +kernel)
  · refine (R_pure0 (ins := .aload_n 0) (len := 1) (loc' := [.ref a, .int x1]) (st' := [.ref a]) (by decide +kernel) (fun _ => rfl)).trans ?_
    refine (R_gi (i := 7) (ci := 8) (k := 1) (n := 2) (by decide +kernel) (by decide +kernel) (by decide) hS_a.1).trans ?_
    refine (R_pure0 (ins := .aload_n 0) (len := 1) (loc' := [.ref a, .int x1]) (st' := [.ref a, .int (mi a 1)]) (by decide +kernel) (fun _ => rfl)).trans ?_
    refine (R_gr (i := 19) (ci := 8) (k := 0) (n := 2) (b := (a + 1)) (by decide +kernel) (by decide +kernel) (by decide) hS_a.1 hS_a.2.1).trans ?_
    refine (R_arraylength (kd := 100) (n := n_a) (by decide +kernel) hS_a.2.2 (by decide)).trans ?_
    refine (R_icmp_ge (off := 23) (t := 39) (by decide +kernel) (by decide +kernel)).trans (ite_congr rfl (fun c1 => ?_) (fun c1 => ?_))
    · refine (R_pure0 (ins := .aload_n 0) (len := 1) (loc' := [.ref a, .int x1]) (st' := [.ref a]) (by decide +kernel) (fun _ => rfl)).trans ?_
      refine (R_gr (i := 19) (ci := 8) (k := 0) (n := 2) (b := (a + 1)) (by decide +kernel) (by decide +kernel) (by decide) hS_a.1 hS_a.2.1).trans ?_
      refine (R_pure0 (ins := .aload_n 0) (len := 1) (loc' := [.ref a, .int x1]) (st' := [.ref a, .ref (a + 1)]) (by decide +kernel) (fun _ => rfl)).trans ?_
      refine (R_gi (i := 7) (ci := 8) (k := 1) (n := 2) (by decide +kernel) (by decide +kernel) (by decide) hS_a.1).trans ?_
      refine (R_pure0 (ins := .iload_n 1) (len := 1) (loc' := [.ref a, .int x1]) (st' := [.int x1, .int (mi a 1), .ref (a + 1)]) (by decide +kernel) (fun _ => rfl)).trans ?_
      refine (R_iastore (n := n_a) (by decide +kernel) hS_a.2.2 (h1 c0 c1)).trans ?_
      refine (R_pure0 (ins := .aload_n 0) (len := 1) (loc' := [.ref a, .int x1]) (st' := [.ref a]) (by decide +kernel) (fun _ => rfl)).trans ?_
      refine (R_pure0 (ins := .dup) (len := 1) (loc' := [.ref a, .int x1]) (st' := [.ref a, .ref a]) (by decide +kernel) (fun _ => rfl)).trans ?_
      refine (R_gi (i := 7) (ci := 8) (k := 1) (n := 2) (by decide +kernel) (by decide +kernel) (by decide) hS_a.1).trans ?_
      refine (R_iconst (n := 1) (v := 1) (by decide +kernel) (by decide +kernel)).trans ?_
      refine (R_pure0 (ins := .iadd) (len := 1) (loc' := [.ref a, .int x1]) (st' := [.int (((xw mi (a + 1) (mi a 1).toNatClampNeg x1) a 1) + 1), .ref a]) (by decide +kernel) (fun _ => rfl)).trans ?_
      refine (R_pi (i := 7) (ci := 8) (k := 1) (n := 2) (by decide +kernel) (by decide +kernel) (by decide) hS_a.1).trans ?_
      exact R_return (by decide +kernel) (by decide +kernel)
    · exact R_return (by decide +kernel) (by decide +kernel)
theorem s94 {L : Nat} {mi : Nat → Nat → Int32} {ml : Nat → Nat → Int64} {d : Nat} {Q : Option Value → xM → Prop} {x1 : Int32} {a : Nat} {n_a : Nat} (hS_a : isStrip L a n_a) : Xm 94 [.ref a, .int x1] (SH L, mi, ml, MR) d Q =
    if (x1 < 0) then (Q none (SH L, mi, ml, MR)) else (if (x1 < (mi a 1)) then (Q none (SH L, (xw mi a 1 x1), ml, MR)) else (Q none (SH L, mi, ml, MR))) := by
  rw [Xm_ent (n := 2) (loc := [.ref a, .int x1]) (by decide +kernel) rfl]
  refine (R_pure0 (ins := .iload_n 1) (len := 1) (loc' := [.ref a, .int x1]) (st' := [.int x1]) (by decide +kernel) (fun _ => rfl)).trans ?_
  refine (R_if_lt (off := 16) (t := 17) (by decide +kernel) (by decide +kernel)).trans (ite_congr rfl (fun c0 => ?_) (fun c0 => ?_))
  · exact R_return (by decide +kernel) (by decide +kernel)
  · refine (R_pure0 (ins := .iload_n 1) (len := 1) (loc' := [.ref a, .int x1]) (st' := [.int x1]) (by decide +kernel) (fun _ => rfl)).trans ?_
    refine (R_pure0 (ins := .aload_n 0) (len := 1) (loc' := [.ref a, .int x1]) (st' := [.ref a, .int x1]) (by decide +kernel) (fun _ => rfl)).trans ?_
    refine (R_gi (i := 7) (ci := 8) (k := 1) (n := 2) (by decide +kernel) (by decide +kernel) (by decide) hS_a.1).trans ?_
    refine (R_icmp_ge (off := 8) (t := 17) (by decide +kernel) (by decide +kernel)).trans (ite_congr rfl (fun c1 => ?_) (fun c1 => ?_))
    · refine (R_pure0 (ins := .aload_n 0) (len := 1) (loc' := [.ref a, .int x1]) (st' := [.ref a]) (by decide +kernel) (fun _ => rfl)).trans ?_
      refine (R_pure0 (ins := .iload_n 1) (len := 1) (loc' := [.ref a, .int x1]) (st' := [.int x1, .ref a]) (by decide +kernel) (fun _ => rfl)).trans ?_
      refine (R_pi (i := 7) (ci := 8) (k := 1) (n := 2) (by decide +kernel) (by decide +kernel) (by decide) hS_a.1).trans ?_
      exact R_return (by decide +kernel) (by decide +kernel)
    · exact R_return (by decide +kernel) (by decide +kernel)
theorem s95 {L : Nat} {mi : Nat → Nat → Int32} {ml : Nat → Nat → Int64} {d : Nat} {Q : Option Value → xM → Prop} {a : Nat} {n_a : Nat} (hS_a : isStrip L a n_a) : Xm 95 [.ref a] (SH L, mi, ml, MR) d Q =
    Q none (SH L, (xw mi a 1 (-1)), ml, MR) := by
  rw [Xm_ent (n := 1) (loc := [.ref a]) (by decide +kernel) rfl]
  refine (R_pure0 (ins := .aload_n 0) (len := 1) (loc' := [.ref a]) (st' := [.ref a]) (by decide +kernel) (fun _ => rfl)).trans ?_
  refine (R_iconst (n := (-1)) (v := (-1)) (by decide +kernel) (by decide +kernel)).trans ?_
  refine (R_pi (i := 7) (ci := 8) (k := 1) (n := 2) (by decide +kernel) (by decide +kernel) (by decide) hS_a.1).trans ?_
  exact R_return (by decide +kernel) (by decide +kernel)
theorem s96 {L : Nat} {mi : Nat → Nat → Int32} {ml : Nat → Nat → Int64} {d : Nat} {Q : Option Value → xM → Prop} {x2 x3 x4 : Int32} {a r1 : Nat} {n_a : Nat} {n_r1 : Nat} (hS_a : isStrip L a n_a) (hS_r1 : isStrip L r1 n_r1) : Xm 96 [.ref a, .ref r1, .int x2, .int x3, .int x4] (SH L, mi, ml, MR) (d + 1) Q =
    Xm 89 [.ref r1, .int x2, .int x4] (SH L, mi, ml, MR) d (fun v μ' => X 96 11 [.ref a, .ref r1, .int x2, .int x3, .int x4] (v.toList ++ []) μ' (d + 1) Q) := by
  rw [Xm_ent (n := 5) (loc := [.ref a, .ref r1, .int x2, .int x3, .int x4]) (by decide +kernel) rfl]
  refine (R_pure0 (ins := .aload_n 1) (len := 1) (loc' := [.ref a, .ref r1, .int x2, .int x3, .int x4]) (st' := [.ref r1]) (by decide +kernel) (fun _ => rfl)).trans ?_
  refine (R_ifnull_r (off := 38) (by decide +kernel)).trans ?_
  refine (R_pure0 (ins := .aload_n 1) (len := 1) (loc' := [.ref a, .ref r1, .int x2, .int x3, .int x4]) (st' := [.ref r1]) (by decide +kernel) (fun _ => rfl)).trans ?_
  refine (R_pure0 (ins := .iload_n 2) (len := 1) (loc' := [.ref a, .ref r1, .int x2, .int x3, .int x4]) (st' := [.int x2, .ref r1]) (by decide +kernel) (fun _ => rfl)).trans ?_
  refine (R_pure0 (ins := .iload 4) (len := 2) (loc' := [.ref a, .ref r1, .int x2, .int x3, .int x4]) (st' := [.int x4, .int x2, .ref r1]) (by decide +kernel) (fun _ => rfl)).trans ?_
  refine (R_virt (i := 26) (f := 89) (kd := 0) (na := 2) (ml := 3) (ci := 8) (n := 2) (b := r1) (As := [.int x2, .int x4]) (rest := []) (by decide +kernel) (by decide +kernel) (by decide) (by decide +kernel) rfl (by decide +kernel) hS_r1.1 rfl (by decide +kernel) (Nat.le_of_ble_eq_true rfl)).trans ?_
  rfl
theorem s96n {L : Nat} {mi : Nat → Nat → Int32} {ml : Nat → Nat → Int64} {d : Nat} {Q : Option Value → xM → Prop} {x2 x3 x4 : Int32} {a : Nat} {n_a : Nat} (hS_a : isStrip L a n_a) : Xm 96 [.ref a, .null, .int x2, .int x3, .int x4] (SH L, mi, ml, MR) d Q =
    Q none (SH L, mi, ml, MR) := by
  rw [Xm_ent (n := 5) (loc := [.ref a, .null, .int x2, .int x3, .int x4]) (by decide +kernel) rfl]
  refine (R_pure0 (ins := .aload_n 1) (len := 1) (loc' := [.ref a, .null, .int x2, .int x3, .int x4]) (st' := [.null]) (by decide +kernel) (fun _ => rfl)).trans ?_
  refine (R_ifnull_n (off := 38) (t := 39) (by decide +kernel) (by decide +kernel)).trans ?_
  exact R_return (by decide +kernel) (by decide +kernel)
theorem s96_11 {L : Nat} {mi : Nat → Nat → Int32} {ml : Nat → Nat → Int64} {d : Nat} {Q : Option Value → xM → Prop} {x2 x3 x4 y : Int32} {a r1 : Nat} {n_a : Nat} {n_r1 : Nat} (hS_a : isStrip L a n_a) (hS_r1 : isStrip L r1 n_r1) : X 96 11 [.ref a, .ref r1, .int x2, .int x3, .int x4] [.int y] (SH L, mi, ml, MR) (d + 1) Q =
    if (y = 0) then (Q none (SH L, mi, ml, MR)) else (Xm 89 [.ref a, .int x3, .int x4] (SH L, mi, ml, MR) d (fun v μ' => X 96 21 [.ref a, .ref r1, .int x2, .int x3, .int x4] (v.toList ++ []) μ' (d + 1) Q)) := by
  refine (R_if_eq (off := 28) (t := 39) (by decide +kernel) (by decide +kernel)).trans (ite_congr rfl (fun c0 => ?_) (fun c0 => ?_))
  · exact R_return (by decide +kernel) (by decide +kernel)
  · refine (R_pure0 (ins := .aload_n 0) (len := 1) (loc' := [.ref a, .ref r1, .int x2, .int x3, .int x4]) (st' := [.ref a]) (by decide +kernel) (fun _ => rfl)).trans ?_
    refine (R_pure0 (ins := .iload_n 3) (len := 1) (loc' := [.ref a, .ref r1, .int x2, .int x3, .int x4]) (st' := [.int x3, .ref a]) (by decide +kernel) (fun _ => rfl)).trans ?_
    refine (R_pure0 (ins := .iload 4) (len := 2) (loc' := [.ref a, .ref r1, .int x2, .int x3, .int x4]) (st' := [.int x4, .int x3, .ref a]) (by decide +kernel) (fun _ => rfl)).trans ?_
    refine (R_virt (i := 26) (f := 89) (kd := 0) (na := 2) (ml := 3) (ci := 8) (n := 2) (b := a) (As := [.int x3, .int x4]) (rest := []) (by decide +kernel) (by decide +kernel) (by decide) (by decide +kernel) rfl (by decide +kernel) hS_a.1 rfl (by decide +kernel) (Nat.le_of_ble_eq_true rfl)).trans ?_
    rfl
theorem s96_21 {L : Nat} {mi : Nat → Nat → Int32} {ml : Nat → Nat → Int64} {d : Nat} {Q : Option Value → xM → Prop} {x2 x3 x4 y : Int32} {a r1 : Nat} {n_a : Nat} {n_r1 : Nat} (hS_a : isStrip L a n_a) (hS_r1 : isStrip L r1 n_r1) (h1 : ¬ (y = 0) → (¬ x2 < 0 ∧ ¬ x3 < 0 ∧ ¬ x4 < 0 ∧ Int32.toNatClampNeg x2 + Int32.toNatClampNeg x4 ≤ n_r1 ∧ Int32.toNatClampNeg x3 + Int32.toNatClampNeg x4 ≤ n_a ∧ xcat [] = true)) : X 96 21 [.ref a, .ref r1, .int x2, .int x3, .int x4] [.int y] (SH L, mi, ml, MR) d Q =
    if (y = 0) then (Q none (SH L, mi, ml, MR)) else (Q none (SH L, (xcpy mi (r1 + 1) (Int32.toNatClampNeg x2) (a + 1) (Int32.toNatClampNeg x3) (Int32.toNatClampNeg x4)), ml, MR)) := by
  refine (R_if_eq (off := 18) (t := 39) (by decide +kernel) (by decide +kernel)).trans (ite_congr rfl (fun c0 => ?_) (fun c0 => ?_))
  · exact R_return (by decide +kernel) (by decide +kernel)
  · refine (R_pure0 (ins := .aload_n 1) (len := 1) (loc' := [.ref a, .ref r1, .int x2, .int x3, .int x4]) (st' := [.ref r1]) (by decide +kernel) (fun _ => rfl)).trans ?_
    refine (R_gr (i := 19) (ci := 8) (k := 0) (n := 2) (b := (r1 + 1)) (by decide +kernel) (by decide +kernel) (by decide) hS_r1.1 hS_r1.2.1).trans ?_
    refine (R_pure0 (ins := .iload_n 2) (len := 1) (loc' := [.ref a, .ref r1, .int x2, .int x3, .int x4]) (st' := [.int x2, .ref (r1 + 1)]) (by decide +kernel) (fun _ => rfl)).trans ?_
    refine (R_pure0 (ins := .aload_n 0) (len := 1) (loc' := [.ref a, .ref r1, .int x2, .int x3, .int x4]) (st' := [.ref a, .int x2, .ref (r1 + 1)]) (by decide +kernel) (fun _ => rfl)).trans ?_
    refine (R_gr (i := 19) (ci := 8) (k := 0) (n := 2) (b := (a + 1)) (by decide +kernel) (by decide +kernel) (by decide) hS_a.1 hS_a.2.1).trans ?_
    refine (R_pure0 (ins := .iload_n 3) (len := 1) (loc' := [.ref a, .ref r1, .int x2, .int x3, .int x4]) (st' := [.int x3, .ref (a + 1), .int x2, .ref (r1 + 1)]) (by decide +kernel) (fun _ => rfl)).trans ?_
    refine (R_pure0 (ins := .iload 4) (len := 2) (loc' := [.ref a, .ref r1, .int x2, .int x3, .int x4]) (st' := [.int x4, .int x3, .ref (a + 1), .int x2, .ref (r1 + 1)]) (by decide +kernel) (fun _ => rfl)).trans ?_
    refine (R_arraycopy (i := 30) (f := 0) (n0 := n_r1) (n1 := n_a) (by decide +kernel) (by decide +kernel) hS_r1.2.2 hS_a.2.2 (h1 c0)).trans ?_
    exact R_return (by decide +kernel) (by decide +kernel)
theorem s97 {L : Nat} {mi : Nat → Nat → Int32} {ml : Nat → Nat → Int64} {d : Nat} {Q : Option Value → xM → Prop} {a r1 : Nat} {n_a : Nat} {n_r1 : Nat} (hS_a : isStrip L a n_a) (hS_r1 : isStrip L r1 n_r1) : Xm 97 [.ref a, .ref r1] (SH L, mi, ml, MR) (d + 1) Q =
    Xm 87 [.ref r1] (SH L, mi, ml, MR) d (fun v μ' => X 97 8 [.ref a, .ref r1] (v.toList ++ []) μ' (d + 1) Q) := by
  rw [Xm_ent (n := 2) (loc := [.ref a, .ref r1]) (by decide +kernel) rfl]
  refine (R_pure0 (ins := .aload_n 1) (len := 1) (loc' := [.ref a, .ref r1]) (st' := [.ref r1]) (by decide +kernel) (fun _ => rfl)).trans ?_
  refine (R_ifnull_r (off := 10) (by decide +kernel)).trans ?_
  refine (R_pure0 (ins := .aload_n 1) (len := 1) (loc' := [.ref a, .ref r1]) (st' := [.ref r1]) (by decide +kernel) (fun _ => rfl)).trans ?_
  refine (R_virt (i := 36) (f := 87) (kd := 0) (na := 0) (ml := 1) (ci := 8) (n := 2) (b := r1) (As := []) (rest := []) (by decide +kernel) (by decide +kernel) (by decide) (by decide +kernel) rfl (by decide +kernel) hS_r1.1 rfl (by decide +kernel) (Nat.le_of_ble_eq_true rfl)).trans ?_
  rfl
theorem s97n {L : Nat} {mi : Nat → Nat → Int32} {ml : Nat → Nat → Int64} {d : Nat} {Q : Option Value → xM → Prop} {a : Nat} {n_a : Nat} (hS_a : isStrip L a n_a) : Xm 97 [.ref a, .null] (SH L, mi, ml, MR) (d + 1) Q =
    Xm 95 [.ref a] (SH L, mi, ml, MR) d (fun v μ' => X 97 15 [.ref a, .null] (v.toList ++ []) μ' (d + 1) Q) := by
  rw [Xm_ent (n := 2) (loc := [.ref a, .null]) (by decide +kernel) rfl]
  refine (R_pure0 (ins := .aload_n 1) (len := 1) (loc' := [.ref a, .null]) (st' := [.null]) (by decide +kernel) (fun _ => rfl)).trans ?_
  refine (R_ifnull_n (off := 10) (t := 11) (by decide +kernel) (by decide +kernel)).trans ?_
  refine (R_pure0 (ins := .aload_n 0) (len := 1) (loc' := [.ref a, .null]) (st' := [.ref a]) (by decide +kernel) (fun _ => rfl)).trans ?_
  refine (R_virt (i := 40) (f := 95) (kd := 0) (na := 0) (ml := 1) (ci := 8) (n := 2) (b := a) (As := []) (rest := []) (by decide +kernel) (by decide +kernel) (by decide) (by decide +kernel) rfl (by decide +kernel) hS_a.1 rfl (by decide +kernel) (Nat.le_of_ble_eq_true rfl)).trans ?_
  rfl
theorem s97_8 {L : Nat} {mi : Nat → Nat → Int32} {ml : Nat → Nat → Int64} {d : Nat} {Q : Option Value → xM → Prop} {y : Int32} {a r1 : Nat} {n_a : Nat} {n_r1 : Nat} (hS_a : isStrip L a n_a) (hS_r1 : isStrip L r1 n_r1) : X 97 8 [.ref a, .ref r1] [.int y] (SH L, mi, ml, MR) (d + 1) Q =
    if (y = 0) then (Xm 92 [.ref a, .int (mi r1 1), .int 0] (SH L, mi, ml, MR) d (fun v μ' => X 97 25 [.ref a, .ref r1] (v.toList ++ []) μ' (d + 1) Q)) else (Xm 95 [.ref a] (SH L, mi, ml, MR) d (fun v μ' => X 97 15 [.ref a, .ref r1] (v.toList ++ []) μ' (d + 1) Q)) := by
  refine (R_if_eq (off := 8) (t := 16) (by decide +kernel) (by decide +kernel)).trans (ite_congr rfl (fun c0 => ?_) (fun c0 => ?_))
  · refine (R_pure0 (ins := .aload_n 0) (len := 1) (loc' := [.ref a, .ref r1]) (st' := [.ref a]) (by decide +kernel) (fun _ => rfl)).trans ?_
    refine (R_pure0 (ins := .aload_n 1) (len := 1) (loc' := [.ref a, .ref r1]) (st' := [.ref r1, .ref a]) (by decide +kernel) (fun _ => rfl)).trans ?_
    refine (R_gi (i := 7) (ci := 8) (k := 1) (n := 2) (by decide +kernel) (by decide +kernel) (by decide) hS_r1.1).trans ?_
    refine (R_iconst (n := 0) (v := 0) (by decide +kernel) (by decide +kernel)).trans ?_
    refine (R_virt (i := 43) (f := 92) (kd := 0) (na := 2) (ml := 4) (ci := 8) (n := 2) (b := a) (As := [.int (mi r1 1), .int 0]) (rest := []) (by decide +kernel) (by decide +kernel) (by decide) (by decide +kernel) rfl (by decide +kernel) hS_a.1 rfl (by decide +kernel) (Nat.le_of_ble_eq_true rfl)).trans ?_
    rfl
  · refine (R_pure0 (ins := .aload_n 0) (len := 1) (loc' := [.ref a, .ref r1]) (st' := [.ref a]) (by decide +kernel) (fun _ => rfl)).trans ?_
    refine (R_virt (i := 40) (f := 95) (kd := 0) (na := 0) (ml := 1) (ci := 8) (n := 2) (b := a) (As := []) (rest := []) (by decide +kernel) (by decide +kernel) (by decide) (by decide +kernel) rfl (by decide +kernel) hS_a.1 rfl (by decide +kernel) (Nat.le_of_ble_eq_true rfl)).trans ?_
    rfl
theorem s97_15 {L : Nat} {mi : Nat → Nat → Int32} {ml : Nat → Nat → Int64} {d : Nat} {Q : Option Value → xM → Prop} {a : Nat} {n_a : Nat} (hS_a : isStrip L a n_a) : X 97 15 [.ref a, .null] [] (SH L, mi, ml, MR) d Q =
    Q none (SH L, mi, ml, MR) := by
  exact R_return (by decide +kernel) (by decide +kernel)
theorem s97_25 {L : Nat} {mi : Nat → Nat → Int32} {ml : Nat → Nat → Int64} {d : Nat} {Q : Option Value → xM → Prop} {a r1 : Nat} {n_a : Nat} {n_r1 : Nat} (hS_a : isStrip L a n_a) (hS_r1 : isStrip L r1 n_r1) : X 97 25 [.ref a, .ref r1] [] (SH L, mi, ml, MR) (d + 1) Q =
    Xm 96 [.ref a, .ref r1, .int 0, .int 0, .int (mi a 1)] (SH L, mi, ml, MR) d (fun v μ' => X 97 36 [.ref a, .ref r1] (v.toList ++ []) μ' (d + 1) Q) := by
  refine (R_pure0 (ins := .aload_n 0) (len := 1) (loc' := [.ref a, .ref r1]) (st' := [.ref a]) (by decide +kernel) (fun _ => rfl)).trans ?_
  refine (R_pure0 (ins := .aload_n 1) (len := 1) (loc' := [.ref a, .ref r1]) (st' := [.ref r1, .ref a]) (by decide +kernel) (fun _ => rfl)).trans ?_
  refine (R_iconst (n := 0) (v := 0) (by decide +kernel) (by decide +kernel)).trans ?_
  refine (R_iconst (n := 0) (v := 0) (by decide +kernel) (by decide +kernel)).trans ?_
  refine (R_pure0 (ins := .aload_n 0) (len := 1) (loc' := [.ref a, .ref r1]) (st' := [.ref a, .int 0, .int 0, .ref r1, .ref a]) (by decide +kernel) (fun _ => rfl)).trans ?_
  refine (R_gi (i := 7) (ci := 8) (k := 1) (n := 2) (by decide +kernel) (by decide +kernel) (by decide) hS_a.1).trans ?_
  refine (R_virt (i := 47) (f := 96) (kd := 0) (na := 4) (ml := 5) (ci := 8) (n := 2) (b := a) (As := [.ref r1, .int 0, .int 0, .int (mi a 1)]) (rest := []) (by decide +kernel) (by decide +kernel) (by decide) (by decide +kernel) rfl (by decide +kernel) hS_a.1 rfl (by decide +kernel) (Nat.le_of_ble_eq_true rfl)).trans ?_
  rfl
theorem s97_15v2 {L : Nat} {mi : Nat → Nat → Int32} {ml : Nat → Nat → Int64} {d : Nat} {Q : Option Value → xM → Prop} {a r1 : Nat} {n_a : Nat} {n_r1 : Nat} (hS_a : isStrip L a n_a) (hS_r1 : isStrip L r1 n_r1) : X 97 15 [.ref a, .ref r1] [] (SH L, mi, ml, MR) d Q =
    Q none (SH L, mi, ml, MR) := by
  exact R_return (by decide +kernel) (by decide +kernel)
theorem s97_36 {L : Nat} {mi : Nat → Nat → Int32} {ml : Nat → Nat → Int64} {d : Nat} {Q : Option Value → xM → Prop} {a r1 : Nat} {n_a : Nat} {n_r1 : Nat} (hS_a : isStrip L a n_a) (hS_r1 : isStrip L r1 n_r1) : X 97 36 [.ref a, .ref r1] [] (SH L, mi, ml, MR) d Q =
    Q none (SH L, mi, ml, MR) := by
  exact R_return (by decide +kernel) (by decide +kernel)
theorem s238 {L : Nat} {mi : Nat → Nat → Int32} {ml : Nat → Nat → Int64} {d : Nat} {Q : Option Value → xM → Prop} {x0 : Int32} : Xm 238 [.int x0] (SH L, mi, ml, MR) d Q =
    Q (some (.int ((((((((x0 - ((x0.toUInt32 >>> (Int32.toUInt32 1 &&& Int32.toUInt32 31)).toInt32 &&& 1431655765)) &&& 858993459) + (((x0 - ((x0.toUInt32 >>> (Int32.toUInt32 1 &&& Int32.toUInt32 31)).toInt32 &&& 1431655765)).toUInt32 >>> (Int32.toUInt32 2 &&& Int32.toUInt32 31)).toInt32 &&& 858993459)) + ((((x0 - ((x0.toUInt32 >>> (Int32.toUInt32 1 &&& Int32.toUInt32 31)).toInt32 &&& 1431655765)) &&& 858993459) + (((x0 - ((x0.toUInt32 >>> (Int32.toUInt32 1 &&& Int32.toUInt32 31)).toInt32 &&& 1431655765)).toUInt32 >>> (Int32.toUInt32 2 &&& Int32.toUInt32 31)).toInt32 &&& 858993459)).toUInt32 >>> (Int32.toUInt32 4 &&& Int32.toUInt32 31)).toInt32) &&& 252645135) + ((((((x0 - ((x0.toUInt32 >>> (Int32.toUInt32 1 &&& Int32.toUInt32 31)).toInt32 &&& 1431655765)) &&& 858993459) + (((x0 - ((x0.toUInt32 >>> (Int32.toUInt32 1 &&& Int32.toUInt32 31)).toInt32 &&& 1431655765)).toUInt32 >>> (Int32.toUInt32 2 &&& Int32.toUInt32 31)).toInt32 &&& 858993459)) + ((((x0 - ((x0.toUInt32 >>> (Int32.toUInt32 1 &&& Int32.toUInt32 31)).toInt32 &&& 1431655765)) &&& 858993459) + (((x0 - ((x0.toUInt32 >>> (Int32.toUInt32 1 &&& Int32.toUInt32 31)).toInt32 &&& 1431655765)).toUInt32 >>> (Int32.toUInt32 2 &&& Int32.toUInt32 31)).toInt32 &&& 858993459)).toUInt32 >>> (Int32.toUInt32 4 &&& Int32.toUInt32 31)).toInt32) &&& 252645135).toUInt32 >>> (Int32.toUInt32 8 &&& Int32.toUInt32 31)).toInt32) + (((((((x0 - ((x0.toUInt32 >>> (Int32.toUInt32 1 &&& Int32.toUInt32 31)).toInt32 &&& 1431655765)) &&& 858993459) + (((x0 - ((x0.toUInt32 >>> (Int32.toUInt32 1 &&& Int32.toUInt32 31)).toInt32 &&& 1431655765)).toUInt32 >>> (Int32.toUInt32 2 &&& Int32.toUInt32 31)).toInt32 &&& 858993459)) + ((((x0 - ((x0.toUInt32 >>> (Int32.toUInt32 1 &&& Int32.toUInt32 31)).toInt32 &&& 1431655765)) &&& 858993459) + (((x0 - ((x0.toUInt32 >>> (Int32.toUInt32 1 &&& Int32.toUInt32 31)).toInt32 &&& 1431655765)).toUInt32 >>> (Int32.toUInt32 2 &&& Int32.toUInt32 31)).toInt32 &&& 858993459)).toUInt32 >>> (Int32.toUInt32 4 &&& Int32.toUInt32 31)).toInt32) &&& 252645135) + ((((((x0 - ((x0.toUInt32 >>> (Int32.toUInt32 1 &&& Int32.toUInt32 31)).toInt32 &&& 1431655765)) &&& 858993459) + (((x0 - ((x0.toUInt32 >>> (Int32.toUInt32 1 &&& Int32.toUInt32 31)).toInt32 &&& 1431655765)).toUInt32 >>> (Int32.toUInt32 2 &&& Int32.toUInt32 31)).toInt32 &&& 858993459)) + ((((x0 - ((x0.toUInt32 >>> (Int32.toUInt32 1 &&& Int32.toUInt32 31)).toInt32 &&& 1431655765)) &&& 858993459) + (((x0 - ((x0.toUInt32 >>> (Int32.toUInt32 1 &&& Int32.toUInt32 31)).toInt32 &&& 1431655765)).toUInt32 >>> (Int32.toUInt32 2 &&& Int32.toUInt32 31)).toInt32 &&& 858993459)).toUInt32 >>> (Int32.toUInt32 4 &&& Int32.toUInt32 31)).toInt32) &&& 252645135).toUInt32 >>> (Int32.toUInt32 8 &&& Int32.toUInt32 31)).toInt32).toUInt32 >>> (Int32.toUInt32 16 &&& Int32.toUInt32 31)).toInt32) &&& 63))) (SH L, mi, ml, MR) := by
  rw [Xm_ent (n := 1) (loc := [.int x0]) (by decide +kernel) rfl]
  refine (R_pure0 (ins := .iload_n 0) (len := 1) (loc' := [.int x0]) (st' := [.int x0]) (by decide +kernel) (fun _ => rfl)).trans ?_
  refine (R_pure0 (ins := .iload_n 0) (len := 1) (loc' := [.int x0]) (st' := [.int x0, .int x0]) (by decide +kernel) (fun _ => rfl)).trans ?_
  refine (R_iconst (n := 1) (v := 1) (by decide +kernel) (by decide +kernel)).trans ?_
  refine (R_pure0 (ins := .iushr) (len := 1) (loc' := [.int x0]) (st' := [.int (x0.toUInt32 >>> (Int32.toUInt32 1 &&& Int32.toUInt32 31)).toInt32, .int x0]) (by decide +kernel) (fun _ => rfl)).trans ?_
  refine (R_ldc_w (i := 265) (v := 1431655765) (by decide +kernel) (by decide +kernel)).trans ?_
  refine (R_pure0 (ins := .iand) (len := 1) (loc' := [.int x0]) (st' := [.int ((x0.toUInt32 >>> (Int32.toUInt32 1 &&& Int32.toUInt32 31)).toInt32 &&& 1431655765), .int x0]) (by decide +kernel) (fun _ => rfl)).trans ?_
  refine (R_pure0 (ins := .isub) (len := 1) (loc' := [.int x0]) (st' := [.int (x0 - ((x0.toUInt32 >>> (Int32.toUInt32 1 &&& Int32.toUInt32 31)).toInt32 &&& 1431655765))]) (by decide +kernel) (fun _ => rfl)).trans ?_
  refine (R_pure0 (ins := .istore_n 0) (len := 1) (loc' := [.int (x0 - ((x0.toUInt32 >>> (Int32.toUInt32 1 &&& Int32.toUInt32 31)).toInt32 &&& 1431655765))]) (st' := []) (by decide +kernel) (fun _ => rfl)).trans ?_
  refine (R_pure0 (ins := .iload_n 0) (len := 1) (loc' := [.int (x0 - ((x0.toUInt32 >>> (Int32.toUInt32 1 &&& Int32.toUInt32 31)).toInt32 &&& 1431655765))]) (st' := [.int (x0 - ((x0.toUInt32 >>> (Int32.toUInt32 1 &&& Int32.toUInt32 31)).toInt32 &&& 1431655765))]) (by decide +kernel) (fun _ => rfl)).trans ?_
  refine (R_ldc_w (i := 266) (v := 858993459) (by decide +kernel) (by decide +kernel)).trans ?_
  refine (R_pure0 (ins := .iand) (len := 1) (loc' := [.int (x0 - ((x0.toUInt32 >>> (Int32.toUInt32 1 &&& Int32.toUInt32 31)).toInt32 &&& 1431655765))]) (st' := [.int ((x0 - ((x0.toUInt32 >>> (Int32.toUInt32 1 &&& Int32.toUInt32 31)).toInt32 &&& 1431655765)) &&& 858993459)]) (by decide +kernel) (fun _ => rfl)).trans ?_
  refine (R_pure0 (ins := .iload_n 0) (len := 1) (loc' := [.int (x0 - ((x0.toUInt32 >>> (Int32.toUInt32 1 &&& Int32.toUInt32 31)).toInt32 &&& 1431655765))]) (st' := [.int (x0 - ((x0.toUInt32 >>> (Int32.toUInt32 1 &&& Int32.toUInt32 31)).toInt32 &&& 1431655765)), .int ((x0 - ((x0.toUInt32 >>> (Int32.toUInt32 1 &&& Int32.toUInt32 31)).toInt32 &&& 1431655765)) &&& 858993459)]) (by decide +kernel) (fun _ => rfl)).trans ?_
  refine (R_iconst (n := 2) (v := 2) (by decide +kernel) (by decide +kernel)).trans ?_
  refine (R_pure0 (ins := .iushr) (len := 1) (loc' := [.int (x0 - ((x0.toUInt32 >>> (Int32.toUInt32 1 &&& Int32.toUInt32 31)).toInt32 &&& 1431655765))]) (st' := [.int ((x0 - ((x0.toUInt32 >>> (Int32.toUInt32 1 &&& Int32.toUInt32 31)).toInt32 &&& 1431655765)).toUInt32 >>> (Int32.toUInt32 2 &&& Int32.toUInt32 31)).toInt32, .int ((x0 - ((x0.toUInt32 >>> (Int32.toUInt32 1 &&& Int32.toUInt32 31)).toInt32 &&& 1431655765)) &&& 858993459)]) (by decide +kernel) (fun _ => rfl)).trans ?_
  refine (R_ldc_w (i := 266) (v := 858993459) (by decide +kernel) (by decide +kernel)).trans ?_
  refine (R_pure0 (ins := .iand) (len := 1) (loc' := [.int (x0 - ((x0.toUInt32 >>> (Int32.toUInt32 1 &&& Int32.toUInt32 31)).toInt32 &&& 1431655765))]) (st' := [.int (((x0 - ((x0.toUInt32 >>> (Int32.toUInt32 1 &&& Int32.toUInt32 31)).toInt32 &&& 1431655765)).toUInt32 >>> (Int32.toUInt32 2 &&& Int32.toUInt32 31)).toInt32 &&& 858993459), .int ((x0 - ((x0.toUInt32 >>> (Int32.toUInt32 1 &&& Int32.toUInt32 31)).toInt32 &&& 1431655765)) &&& 858993459)]) (by decide +kernel) (fun _ => rfl)).trans ?_
  refine (R_pure0 (ins := .iadd) (len := 1) (loc' := [.int (x0 - ((x0.toUInt32 >>> (Int32.toUInt32 1 &&& Int32.toUInt32 31)).toInt32 &&& 1431655765))]) (st' := [.int (((x0 - ((x0.toUInt32 >>> (Int32.toUInt32 1 &&& Int32.toUInt32 31)).toInt32 &&& 1431655765)) &&& 858993459) + (((x0 - ((x0.toUInt32 >>> (Int32.toUInt32 1 &&& Int32.toUInt32 31)).toInt32 &&& 1431655765)).toUInt32 >>> (Int32.toUInt32 2 &&& Int32.toUInt32 31)).toInt32 &&& 858993459))]) (by decide +kernel) (fun _ => rfl)).trans ?_
  refine (R_pure0 (ins := .istore_n 0) (len := 1) (loc' := [.int (((x0 - ((x0.toUInt32 >>> (Int32.toUInt32 1 &&& Int32.toUInt32 31)).toInt32 &&& 1431655765)) &&& 858993459) + (((x0 - ((x0.toUInt32 >>> (Int32.toUInt32 1 &&& Int32.toUInt32 31)).toInt32 &&& 1431655765)).toUInt32 >>> (Int32.toUInt32 2 &&& Int32.toUInt32 31)).toInt32 &&& 858993459))]) (st' := []) (by decide +kernel) (fun _ => rfl)).trans ?_
  refine (R_pure0 (ins := .iload_n 0) (len := 1) (loc' := [.int (((x0 - ((x0.toUInt32 >>> (Int32.toUInt32 1 &&& Int32.toUInt32 31)).toInt32 &&& 1431655765)) &&& 858993459) + (((x0 - ((x0.toUInt32 >>> (Int32.toUInt32 1 &&& Int32.toUInt32 31)).toInt32 &&& 1431655765)).toUInt32 >>> (Int32.toUInt32 2 &&& Int32.toUInt32 31)).toInt32 &&& 858993459))]) (st' := [.int (((x0 - ((x0.toUInt32 >>> (Int32.toUInt32 1 &&& Int32.toUInt32 31)).toInt32 &&& 1431655765)) &&& 858993459) + (((x0 - ((x0.toUInt32 >>> (Int32.toUInt32 1 &&& Int32.toUInt32 31)).toInt32 &&& 1431655765)).toUInt32 >>> (Int32.toUInt32 2 &&& Int32.toUInt32 31)).toInt32 &&& 858993459))]) (by decide +kernel) (fun _ => rfl)).trans ?_
  refine (R_pure0 (ins := .iload_n 0) (len := 1) (loc' := [.int (((x0 - ((x0.toUInt32 >>> (Int32.toUInt32 1 &&& Int32.toUInt32 31)).toInt32 &&& 1431655765)) &&& 858993459) + (((x0 - ((x0.toUInt32 >>> (Int32.toUInt32 1 &&& Int32.toUInt32 31)).toInt32 &&& 1431655765)).toUInt32 >>> (Int32.toUInt32 2 &&& Int32.toUInt32 31)).toInt32 &&& 858993459))]) (st' := [.int (((x0 - ((x0.toUInt32 >>> (Int32.toUInt32 1 &&& Int32.toUInt32 31)).toInt32 &&& 1431655765)) &&& 858993459) + (((x0 - ((x0.toUInt32 >>> (Int32.toUInt32 1 &&& Int32.toUInt32 31)).toInt32 &&& 1431655765)).toUInt32 >>> (Int32.toUInt32 2 &&& Int32.toUInt32 31)).toInt32 &&& 858993459)), .int (((x0 - ((x0.toUInt32 >>> (Int32.toUInt32 1 &&& Int32.toUInt32 31)).toInt32 &&& 1431655765)) &&& 858993459) + (((x0 - ((x0.toUInt32 >>> (Int32.toUInt32 1 &&& Int32.toUInt32 31)).toInt32 &&& 1431655765)).toUInt32 >>> (Int32.toUInt32 2 &&& Int32.toUInt32 31)).toInt32 &&& 858993459))]) (by decide +kernel) (fun _ => rfl)).trans ?_
  refine (R_iconst (n := 4) (v := 4) (by decide +kernel) (by decide +kernel)).trans ?_
  refine (R_pure0 (ins := .iushr) (len := 1) (loc' := [.int (((x0 - ((x0.toUInt32 >>> (Int32.toUInt32 1 &&& Int32.toUInt32 31)).toInt32 &&& 1431655765)) &&& 858993459) + (((x0 - ((x0.toUInt32 >>> (Int32.toUInt32 1 &&& Int32.toUInt32 31)).toInt32 &&& 1431655765)).toUInt32 >>> (Int32.toUInt32 2 &&& Int32.toUInt32 31)).toInt32 &&& 858993459))]) (st' := [.int ((((x0 - ((x0.toUInt32 >>> (Int32.toUInt32 1 &&& Int32.toUInt32 31)).toInt32 &&& 1431655765)) &&& 858993459) + (((x0 - ((x0.toUInt32 >>> (Int32.toUInt32 1 &&& Int32.toUInt32 31)).toInt32 &&& 1431655765)).toUInt32 >>> (Int32.toUInt32 2 &&& Int32.toUInt32 31)).toInt32 &&& 858993459)).toUInt32 >>> (Int32.toUInt32 4 &&& Int32.toUInt32 31)).toInt32, .int (((x0 - ((x0.toUInt32 >>> (Int32.toUInt32 1 &&& Int32.toUInt32 31)).toInt32 &&& 1431655765)) &&& 858993459) + (((x0 - ((x0.toUInt32 >>> (Int32.toUInt32 1 &&& Int32.toUInt32 31)).toInt32 &&& 1431655765)).toUInt32 >>> (Int32.toUInt32 2 &&& Int32.toUInt32 31)).toInt32 &&& 858993459))]) (by decide +kernel) (fun _ => rfl)).trans ?_
  refine (R_pure0 (ins := .iadd) (len := 1) (loc' := [.int (((x0 - ((x0.toUInt32 >>> (Int32.toUInt32 1 &&& Int32.toUInt32 31)).toInt32 &&& 1431655765)) &&& 858993459) + (((x0 - ((x0.toUInt32 >>> (Int32.toUInt32 1 &&& Int32.toUInt32 31)).toInt32 &&& 1431655765)).toUInt32 >>> (Int32.toUInt32 2 &&& Int32.toUInt32 31)).toInt32 &&& 858993459))]) (st' := [.int ((((x0 - ((x0.toUInt32 >>> (Int32.toUInt32 1 &&& Int32.toUInt32 31)).toInt32 &&& 1431655765)) &&& 858993459) + (((x0 - ((x0.toUInt32 >>> (Int32.toUInt32 1 &&& Int32.toUInt32 31)).toInt32 &&& 1431655765)).toUInt32 >>> (Int32.toUInt32 2 &&& Int32.toUInt32 31)).toInt32 &&& 858993459)) + ((((x0 - ((x0.toUInt32 >>> (Int32.toUInt32 1 &&& Int32.toUInt32 31)).toInt32 &&& 1431655765)) &&& 858993459) + (((x0 - ((x0.toUInt32 >>> (Int32.toUInt32 1 &&& Int32.toUInt32 31)).toInt32 &&& 1431655765)).toUInt32 >>> (Int32.toUInt32 2 &&& Int32.toUInt32 31)).toInt32 &&& 858993459)).toUInt32 >>> (Int32.toUInt32 4 &&& Int32.toUInt32 31)).toInt32)]) (by decide +kernel) (fun _ => rfl)).trans ?_
  refine (R_ldc_w (i := 267) (v := 252645135) (by decide +kernel) (by decide +kernel)).trans ?_
  refine (R_pure0 (ins := .iand) (len := 1) (loc' := [.int (((x0 - ((x0.toUInt32 >>> (Int32.toUInt32 1 &&& Int32.toUInt32 31)).toInt32 &&& 1431655765)) &&& 858993459) + (((x0 - ((x0.toUInt32 >>> (Int32.toUInt32 1 &&& Int32.toUInt32 31)).toInt32 &&& 1431655765)).toUInt32 >>> (Int32.toUInt32 2 &&& Int32.toUInt32 31)).toInt32 &&& 858993459))]) (st' := [.int (((((x0 - ((x0.toUInt32 >>> (Int32.toUInt32 1 &&& Int32.toUInt32 31)).toInt32 &&& 1431655765)) &&& 858993459) + (((x0 - ((x0.toUInt32 >>> (Int32.toUInt32 1 &&& Int32.toUInt32 31)).toInt32 &&& 1431655765)).toUInt32 >>> (Int32.toUInt32 2 &&& Int32.toUInt32 31)).toInt32 &&& 858993459)) + ((((x0 - ((x0.toUInt32 >>> (Int32.toUInt32 1 &&& Int32.toUInt32 31)).toInt32 &&& 1431655765)) &&& 858993459) + (((x0 - ((x0.toUInt32 >>> (Int32.toUInt32 1 &&& Int32.toUInt32 31)).toInt32 &&& 1431655765)).toUInt32 >>> (Int32.toUInt32 2 &&& Int32.toUInt32 31)).toInt32 &&& 858993459)).toUInt32 >>> (Int32.toUInt32 4 &&& Int32.toUInt32 31)).toInt32) &&& 252645135)]) (by decide +kernel) (fun _ => rfl)).trans ?_
  refine (R_pure0 (ins := .istore_n 0) (len := 1) (loc' := [.int (((((x0 - ((x0.toUInt32 >>> (Int32.toUInt32 1 &&& Int32.toUInt32 31)).toInt32 &&& 1431655765)) &&& 858993459) + (((x0 - ((x0.toUInt32 >>> (Int32.toUInt32 1 &&& Int32.toUInt32 31)).toInt32 &&& 1431655765)).toUInt32 >>> (Int32.toUInt32 2 &&& Int32.toUInt32 31)).toInt32 &&& 858993459)) + ((((x0 - ((x0.toUInt32 >>> (Int32.toUInt32 1 &&& Int32.toUInt32 31)).toInt32 &&& 1431655765)) &&& 858993459) + (((x0 - ((x0.toUInt32 >>> (Int32.toUInt32 1 &&& Int32.toUInt32 31)).toInt32 &&& 1431655765)).toUInt32 >>> (Int32.toUInt32 2 &&& Int32.toUInt32 31)).toInt32 &&& 858993459)).toUInt32 >>> (Int32.toUInt32 4 &&& Int32.toUInt32 31)).toInt32) &&& 252645135)]) (st' := []) (by decide +kernel) (fun _ => rfl)).trans ?_
  refine (R_pure0 (ins := .iload_n 0) (len := 1) (loc' := [.int (((((x0 - ((x0.toUInt32 >>> (Int32.toUInt32 1 &&& Int32.toUInt32 31)).toInt32 &&& 1431655765)) &&& 858993459) + (((x0 - ((x0.toUInt32 >>> (Int32.toUInt32 1 &&& Int32.toUInt32 31)).toInt32 &&& 1431655765)).toUInt32 >>> (Int32.toUInt32 2 &&& Int32.toUInt32 31)).toInt32 &&& 858993459)) + ((((x0 - ((x0.toUInt32 >>> (Int32.toUInt32 1 &&& Int32.toUInt32 31)).toInt32 &&& 1431655765)) &&& 858993459) + (((x0 - ((x0.toUInt32 >>> (Int32.toUInt32 1 &&& Int32.toUInt32 31)).toInt32 &&& 1431655765)).toUInt32 >>> (Int32.toUInt32 2 &&& Int32.toUInt32 31)).toInt32 &&& 858993459)).toUInt32 >>> (Int32.toUInt32 4 &&& Int32.toUInt32 31)).toInt32) &&& 252645135)]) (st' := [.int (((((x0 - ((x0.toUInt32 >>> (Int32.toUInt32 1 &&& Int32.toUInt32 31)).toInt32 &&& 1431655765)) &&& 858993459) + (((x0 - ((x0.toUInt32 >>> (Int32.toUInt32 1 &&& Int32.toUInt32 31)).toInt32 &&& 1431655765)).toUInt32 >>> (Int32.toUInt32 2 &&& Int32.toUInt32 31)).toInt32 &&& 858993459)) + ((((x0 - ((x0.toUInt32 >>> (Int32.toUInt32 1 &&& Int32.toUInt32 31)).toInt32 &&& 1431655765)) &&& 858993459) + (((x0 - ((x0.toUInt32 >>> (Int32.toUInt32 1 &&& Int32.toUInt32 31)).toInt32 &&& 1431655765)).toUInt32 >>> (Int32.toUInt32 2 &&& Int32.toUInt32 31)).toInt32 &&& 858993459)).toUInt32 >>> (Int32.toUInt32 4 &&& Int32.toUInt32 31)).toInt32) &&& 252645135)]) (by decide +kernel) (fun _ => rfl)).trans ?_
  refine (R_pure0 (ins := .iload_n 0) (len := 1) (loc' := [.int (((((x0 - ((x0.toUInt32 >>> (Int32.toUInt32 1 &&& Int32.toUInt32 31)).toInt32 &&& 1431655765)) &&& 858993459) + (((x0 - ((x0.toUInt32 >>> (Int32.toUInt32 1 &&& Int32.toUInt32 31)).toInt32 &&& 1431655765)).toUInt32 >>> (Int32.toUInt32 2 &&& Int32.toUInt32 31)).toInt32 &&& 858993459)) + ((((x0 - ((x0.toUInt32 >>> (Int32.toUInt32 1 &&& Int32.toUInt32 31)).toInt32 &&& 1431655765)) &&& 858993459) + (((x0 - ((x0.toUInt32 >>> (Int32.toUInt32 1 &&& Int32.toUInt32 31)).toInt32 &&& 1431655765)).toUInt32 >>> (Int32.toUInt32 2 &&& Int32.toUInt32 31)).toInt32 &&& 858993459)).toUInt32 >>> (Int32.toUInt32 4 &&& Int32.toUInt32 31)).toInt32) &&& 252645135)]) (st' := [.int (((((x0 - ((x0.toUInt32 >>> (Int32.toUInt32 1 &&& Int32.toUInt32 31)).toInt32 &&& 1431655765)) &&& 858993459) + (((x0 - ((x0.toUInt32 >>> (Int32.toUInt32 1 &&& Int32.toUInt32 31)).toInt32 &&& 1431655765)).toUInt32 >>> (Int32.toUInt32 2 &&& Int32.toUInt32 31)).toInt32 &&& 858993459)) + ((((x0 - ((x0.toUInt32 >>> (Int32.toUInt32 1 &&& Int32.toUInt32 31)).toInt32 &&& 1431655765)) &&& 858993459) + (((x0 - ((x0.toUInt32 >>> (Int32.toUInt32 1 &&& Int32.toUInt32 31)).toInt32 &&& 1431655765)).toUInt32 >>> (Int32.toUInt32 2 &&& Int32.toUInt32 31)).toInt32 &&& 858993459)).toUInt32 >>> (Int32.toUInt32 4 &&& Int32.toUInt32 31)).toInt32) &&& 252645135), .int (((((x0 - ((x0.toUInt32 >>> (Int32.toUInt32 1 &&& Int32.toUInt32 31)).toInt32 &&& 1431655765)) &&& 858993459) + (((x0 - ((x0.toUInt32 >>> (Int32.toUInt32 1 &&& Int32.toUInt32 31)).toInt32 &&& 1431655765)).toUInt32 >>> (Int32.toUInt32 2 &&& Int32.toUInt32 31)).toInt32 &&& 858993459)) + ((((x0 - ((x0.toUInt32 >>> (Int32.toUInt32 1 &&& Int32.toUInt32 31)).toInt32 &&& 1431655765)) &&& 858993459) + (((x0 - ((x0.toUInt32 >>> (Int32.toUInt32 1 &&& Int32.toUInt32 31)).toInt32 &&& 1431655765)).toUInt32 >>> (Int32.toUInt32 2 &&& Int32.toUInt32 31)).toInt32 &&& 858993459)).toUInt32 >>> (Int32.toUInt32 4 &&& Int32.toUInt32 31)).toInt32) &&& 252645135)]) (by decide +kernel) (fun _ => rfl)).trans ?_
  refine (R_bipush (n := 8) (v := 8) (by decide +kernel) (by decide +kernel)).trans ?_
  refine (R_pure0 (ins := .iushr) (len := 1) (loc' := [.int (((((x0 - ((x0.toUInt32 >>> (Int32.toUInt32 1 &&& Int32.toUInt32 31)).toInt32 &&& 1431655765)) &&& 858993459) + (((x0 - ((x0.toUInt32 >>> (Int32.toUInt32 1 &&& Int32.toUInt32 31)).toInt32 &&& 1431655765)).toUInt32 >>> (Int32.toUInt32 2 &&& Int32.toUInt32 31)).toInt32 &&& 858993459)) + ((((x0 - ((x0.toUInt32 >>> (Int32.toUInt32 1 &&& Int32.toUInt32 31)).toInt32 &&& 1431655765)) &&& 858993459) + (((x0 - ((x0.toUInt32 >>> (Int32.toUInt32 1 &&& Int32.toUInt32 31)).toInt32 &&& 1431655765)).toUInt32 >>> (Int32.toUInt32 2 &&& Int32.toUInt32 31)).toInt32 &&& 858993459)).toUInt32 >>> (Int32.toUInt32 4 &&& Int32.toUInt32 31)).toInt32) &&& 252645135)]) (st' := [.int ((((((x0 - ((x0.toUInt32 >>> (Int32.toUInt32 1 &&& Int32.toUInt32 31)).toInt32 &&& 1431655765)) &&& 858993459) + (((x0 - ((x0.toUInt32 >>> (Int32.toUInt32 1 &&& Int32.toUInt32 31)).toInt32 &&& 1431655765)).toUInt32 >>> (Int32.toUInt32 2 &&& Int32.toUInt32 31)).toInt32 &&& 858993459)) + ((((x0 - ((x0.toUInt32 >>> (Int32.toUInt32 1 &&& Int32.toUInt32 31)).toInt32 &&& 1431655765)) &&& 858993459) + (((x0 - ((x0.toUInt32 >>> (Int32.toUInt32 1 &&& Int32.toUInt32 31)).toInt32 &&& 1431655765)).toUInt32 >>> (Int32.toUInt32 2 &&& Int32.toUInt32 31)).toInt32 &&& 858993459)).toUInt32 >>> (Int32.toUInt32 4 &&& Int32.toUInt32 31)).toInt32) &&& 252645135).toUInt32 >>> (Int32.toUInt32 8 &&& Int32.toUInt32 31)).toInt32, .int (((((x0 - ((x0.toUInt32 >>> (Int32.toUInt32 1 &&& Int32.toUInt32 31)).toInt32 &&& 1431655765)) &&& 858993459) + (((x0 - ((x0.toUInt32 >>> (Int32.toUInt32 1 &&& Int32.toUInt32 31)).toInt32 &&& 1431655765)).toUInt32 >>> (Int32.toUInt32 2 &&& Int32.toUInt32 31)).toInt32 &&& 858993459)) + ((((x0 - ((x0.toUInt32 >>> (Int32.toUInt32 1 &&& Int32.toUInt32 31)).toInt32 &&& 1431655765)) &&& 858993459) + (((x0 - ((x0.toUInt32 >>> (Int32.toUInt32 1 &&& Int32.toUInt32 31)).toInt32 &&& 1431655765)).toUInt32 >>> (Int32.toUInt32 2 &&& Int32.toUInt32 31)).toInt32 &&& 858993459)).toUInt32 >>> (Int32.toUInt32 4 &&& Int32.toUInt32 31)).toInt32) &&& 252645135)]) (by decide +kernel) (fun _ => rfl)).trans ?_
  refine (R_pure0 (ins := .iadd) (len := 1) (loc' := [.int (((((x0 - ((x0.toUInt32 >>> (Int32.toUInt32 1 &&& Int32.toUInt32 31)).toInt32 &&& 1431655765)) &&& 858993459) + (((x0 - ((x0.toUInt32 >>> (Int32.toUInt32 1 &&& Int32.toUInt32 31)).toInt32 &&& 1431655765)).toUInt32 >>> (Int32.toUInt32 2 &&& Int32.toUInt32 31)).toInt32 &&& 858993459)) + ((((x0 - ((x0.toUInt32 >>> (Int32.toUInt32 1 &&& Int32.toUInt32 31)).toInt32 &&& 1431655765)) &&& 858993459) + (((x0 - ((x0.toUInt32 >>> (Int32.toUInt32 1 &&& Int32.toUInt32 31)).toInt32 &&& 1431655765)).toUInt32 >>> (Int32.toUInt32 2 &&& Int32.toUInt32 31)).toInt32 &&& 858993459)).toUInt32 >>> (Int32.toUInt32 4 &&& Int32.toUInt32 31)).toInt32) &&& 252645135)]) (st' := [.int ((((((x0 - ((x0.toUInt32 >>> (Int32.toUInt32 1 &&& Int32.toUInt32 31)).toInt32 &&& 1431655765)) &&& 858993459) + (((x0 - ((x0.toUInt32 >>> (Int32.toUInt32 1 &&& Int32.toUInt32 31)).toInt32 &&& 1431655765)).toUInt32 >>> (Int32.toUInt32 2 &&& Int32.toUInt32 31)).toInt32 &&& 858993459)) + ((((x0 - ((x0.toUInt32 >>> (Int32.toUInt32 1 &&& Int32.toUInt32 31)).toInt32 &&& 1431655765)) &&& 858993459) + (((x0 - ((x0.toUInt32 >>> (Int32.toUInt32 1 &&& Int32.toUInt32 31)).toInt32 &&& 1431655765)).toUInt32 >>> (Int32.toUInt32 2 &&& Int32.toUInt32 31)).toInt32 &&& 858993459)).toUInt32 >>> (Int32.toUInt32 4 &&& Int32.toUInt32 31)).toInt32) &&& 252645135) + ((((((x0 - ((x0.toUInt32 >>> (Int32.toUInt32 1 &&& Int32.toUInt32 31)).toInt32 &&& 1431655765)) &&& 858993459) + (((x0 - ((x0.toUInt32 >>> (Int32.toUInt32 1 &&& Int32.toUInt32 31)).toInt32 &&& 1431655765)).toUInt32 >>> (Int32.toUInt32 2 &&& Int32.toUInt32 31)).toInt32 &&& 858993459)) + ((((x0 - ((x0.toUInt32 >>> (Int32.toUInt32 1 &&& Int32.toUInt32 31)).toInt32 &&& 1431655765)) &&& 858993459) + (((x0 - ((x0.toUInt32 >>> (Int32.toUInt32 1 &&& Int32.toUInt32 31)).toInt32 &&& 1431655765)).toUInt32 >>> (Int32.toUInt32 2 &&& Int32.toUInt32 31)).toInt32 &&& 858993459)).toUInt32 >>> (Int32.toUInt32 4 &&& Int32.toUInt32 31)).toInt32) &&& 252645135).toUInt32 >>> (Int32.toUInt32 8 &&& Int32.toUInt32 31)).toInt32)]) (by decide +kernel) (fun _ => rfl)).trans ?_
  refine (R_pure0 (ins := .istore_n 0) (len := 1) (loc' := [.int ((((((x0 - ((x0.toUInt32 >>> (Int32.toUInt32 1 &&& Int32.toUInt32 31)).toInt32 &&& 1431655765)) &&& 858993459) + (((x0 - ((x0.toUInt32 >>> (Int32.toUInt32 1 &&& Int32.toUInt32 31)).toInt32 &&& 1431655765)).toUInt32 >>> (Int32.toUInt32 2 &&& Int32.toUInt32 31)).toInt32 &&& 858993459)) + ((((x0 - ((x0.toUInt32 >>> (Int32.toUInt32 1 &&& Int32.toUInt32 31)).toInt32 &&& 1431655765)) &&& 858993459) + (((x0 - ((x0.toUInt32 >>> (Int32.toUInt32 1 &&& Int32.toUInt32 31)).toInt32 &&& 1431655765)).toUInt32 >>> (Int32.toUInt32 2 &&& Int32.toUInt32 31)).toInt32 &&& 858993459)).toUInt32 >>> (Int32.toUInt32 4 &&& Int32.toUInt32 31)).toInt32) &&& 252645135) + ((((((x0 - ((x0.toUInt32 >>> (Int32.toUInt32 1 &&& Int32.toUInt32 31)).toInt32 &&& 1431655765)) &&& 858993459) + (((x0 - ((x0.toUInt32 >>> (Int32.toUInt32 1 &&& Int32.toUInt32 31)).toInt32 &&& 1431655765)).toUInt32 >>> (Int32.toUInt32 2 &&& Int32.toUInt32 31)).toInt32 &&& 858993459)) + ((((x0 - ((x0.toUInt32 >>> (Int32.toUInt32 1 &&& Int32.toUInt32 31)).toInt32 &&& 1431655765)) &&& 858993459) + (((x0 - ((x0.toUInt32 >>> (Int32.toUInt32 1 &&& Int32.toUInt32 31)).toInt32 &&& 1431655765)).toUInt32 >>> (Int32.toUInt32 2 &&& Int32.toUInt32 31)).toInt32 &&& 858993459)).toUInt32 >>> (Int32.toUInt32 4 &&& Int32.toUInt32 31)).toInt32) &&& 252645135).toUInt32 >>> (Int32.toUInt32 8 &&& Int32.toUInt32 31)).toInt32)]) (st' := []) (by decide +kernel) (fun _ => rfl)).trans ?_
  refine (R_pure0 (ins := .iload_n 0) (len := 1) (loc' := [.int ((((((x0 - ((x0.toUInt32 >>> (Int32.toUInt32 1 &&& Int32.toUInt32 31)).toInt32 &&& 1431655765)) &&& 858993459) + (((x0 - ((x0.toUInt32 >>> (Int32.toUInt32 1 &&& Int32.toUInt32 31)).toInt32 &&& 1431655765)).toUInt32 >>> (Int32.toUInt32 2 &&& Int32.toUInt32 31)).toInt32 &&& 858993459)) + ((((x0 - ((x0.toUInt32 >>> (Int32.toUInt32 1 &&& Int32.toUInt32 31)).toInt32 &&& 1431655765)) &&& 858993459) + (((x0 - ((x0.toUInt32 >>> (Int32.toUInt32 1 &&& Int32.toUInt32 31)).toInt32 &&& 1431655765)).toUInt32 >>> (Int32.toUInt32 2 &&& Int32.toUInt32 31)).toInt32 &&& 858993459)).toUInt32 >>> (Int32.toUInt32 4 &&& Int32.toUInt32 31)).toInt32) &&& 252645135) + ((((((x0 - ((x0.toUInt32 >>> (Int32.toUInt32 1 &&& Int32.toUInt32 31)).toInt32 &&& 1431655765)) &&& 858993459) + (((x0 - ((x0.toUInt32 >>> (Int32.toUInt32 1 &&& Int32.toUInt32 31)).toInt32 &&& 1431655765)).toUInt32 >>> (Int32.toUInt32 2 &&& Int32.toUInt32 31)).toInt32 &&& 858993459)) + ((((x0 - ((x0.toUInt32 >>> (Int32.toUInt32 1 &&& Int32.toUInt32 31)).toInt32 &&& 1431655765)) &&& 858993459) + (((x0 - ((x0.toUInt32 >>> (Int32.toUInt32 1 &&& Int32.toUInt32 31)).toInt32 &&& 1431655765)).toUInt32 >>> (Int32.toUInt32 2 &&& Int32.toUInt32 31)).toInt32 &&& 858993459)).toUInt32 >>> (Int32.toUInt32 4 &&& Int32.toUInt32 31)).toInt32) &&& 252645135).toUInt32 >>> (Int32.toUInt32 8 &&& Int32.toUInt32 31)).toInt32)]) (st' := [.int ((((((x0 - ((x0.toUInt32 >>> (Int32.toUInt32 1 &&& Int32.toUInt32 31)).toInt32 &&& 1431655765)) &&& 858993459) + (((x0 - ((x0.toUInt32 >>> (Int32.toUInt32 1 &&& Int32.toUInt32 31)).toInt32 &&& 1431655765)).toUInt32 >>> (Int32.toUInt32 2 &&& Int32.toUInt32 31)).toInt32 &&& 858993459)) + ((((x0 - ((x0.toUInt32 >>> (Int32.toUInt32 1 &&& Int32.toUInt32 31)).toInt32 &&& 1431655765)) &&& 858993459) + (((x0 - ((x0.toUInt32 >>> (Int32.toUInt32 1 &&& Int32.toUInt32 31)).toInt32 &&& 1431655765)).toUInt32 >>> (Int32.toUInt32 2 &&& Int32.toUInt32 31)).toInt32 &&& 858993459)).toUInt32 >>> (Int32.toUInt32 4 &&& Int32.toUInt32 31)).toInt32) &&& 252645135) + ((((((x0 - ((x0.toUInt32 >>> (Int32.toUInt32 1 &&& Int32.toUInt32 31)).toInt32 &&& 1431655765)) &&& 858993459) + (((x0 - ((x0.toUInt32 >>> (Int32.toUInt32 1 &&& Int32.toUInt32 31)).toInt32 &&& 1431655765)).toUInt32 >>> (Int32.toUInt32 2 &&& Int32.toUInt32 31)).toInt32 &&& 858993459)) + ((((x0 - ((x0.toUInt32 >>> (Int32.toUInt32 1 &&& Int32.toUInt32 31)).toInt32 &&& 1431655765)) &&& 858993459) + (((x0 - ((x0.toUInt32 >>> (Int32.toUInt32 1 &&& Int32.toUInt32 31)).toInt32 &&& 1431655765)).toUInt32 >>> (Int32.toUInt32 2 &&& Int32.toUInt32 31)).toInt32 &&& 858993459)).toUInt32 >>> (Int32.toUInt32 4 &&& Int32.toUInt32 31)).toInt32) &&& 252645135).toUInt32 >>> (Int32.toUInt32 8 &&& Int32.toUInt32 31)).toInt32)]) (by decide +kernel) (fun _ => rfl)).trans ?_
  refine (R_pure0 (ins := .iload_n 0) (len := 1) (loc' := [.int ((((((x0 - ((x0.toUInt32 >>> (Int32.toUInt32 1 &&& Int32.toUInt32 31)).toInt32 &&& 1431655765)) &&& 858993459) + (((x0 - ((x0.toUInt32 >>> (Int32.toUInt32 1 &&& Int32.toUInt32 31)).toInt32 &&& 1431655765)).toUInt32 >>> (Int32.toUInt32 2 &&& Int32.toUInt32 31)).toInt32 &&& 858993459)) + ((((x0 - ((x0.toUInt32 >>> (Int32.toUInt32 1 &&& Int32.toUInt32 31)).toInt32 &&& 1431655765)) &&& 858993459) + (((x0 - ((x0.toUInt32 >>> (Int32.toUInt32 1 &&& Int32.toUInt32 31)).toInt32 &&& 1431655765)).toUInt32 >>> (Int32.toUInt32 2 &&& Int32.toUInt32 31)).toInt32 &&& 858993459)).toUInt32 >>> (Int32.toUInt32 4 &&& Int32.toUInt32 31)).toInt32) &&& 252645135) + ((((((x0 - ((x0.toUInt32 >>> (Int32.toUInt32 1 &&& Int32.toUInt32 31)).toInt32 &&& 1431655765)) &&& 858993459) + (((x0 - ((x0.toUInt32 >>> (Int32.toUInt32 1 &&& Int32.toUInt32 31)).toInt32 &&& 1431655765)).toUInt32 >>> (Int32.toUInt32 2 &&& Int32.toUInt32 31)).toInt32 &&& 858993459)) + ((((x0 - ((x0.toUInt32 >>> (Int32.toUInt32 1 &&& Int32.toUInt32 31)).toInt32 &&& 1431655765)) &&& 858993459) + (((x0 - ((x0.toUInt32 >>> (Int32.toUInt32 1 &&& Int32.toUInt32 31)).toInt32 &&& 1431655765)).toUInt32 >>> (Int32.toUInt32 2 &&& Int32.toUInt32 31)).toInt32 &&& 858993459)).toUInt32 >>> (Int32.toUInt32 4 &&& Int32.toUInt32 31)).toInt32) &&& 252645135).toUInt32 >>> (Int32.toUInt32 8 &&& Int32.toUInt32 31)).toInt32)]) (st' := [.int ((((((x0 - ((x0.toUInt32 >>> (Int32.toUInt32 1 &&& Int32.toUInt32 31)).toInt32 &&& 1431655765)) &&& 858993459) + (((x0 - ((x0.toUInt32 >>> (Int32.toUInt32 1 &&& Int32.toUInt32 31)).toInt32 &&& 1431655765)).toUInt32 >>> (Int32.toUInt32 2 &&& Int32.toUInt32 31)).toInt32 &&& 858993459)) + ((((x0 - ((x0.toUInt32 >>> (Int32.toUInt32 1 &&& Int32.toUInt32 31)).toInt32 &&& 1431655765)) &&& 858993459) + (((x0 - ((x0.toUInt32 >>> (Int32.toUInt32 1 &&& Int32.toUInt32 31)).toInt32 &&& 1431655765)).toUInt32 >>> (Int32.toUInt32 2 &&& Int32.toUInt32 31)).toInt32 &&& 858993459)).toUInt32 >>> (Int32.toUInt32 4 &&& Int32.toUInt32 31)).toInt32) &&& 252645135) + ((((((x0 - ((x0.toUInt32 >>> (Int32.toUInt32 1 &&& Int32.toUInt32 31)).toInt32 &&& 1431655765)) &&& 858993459) + (((x0 - ((x0.toUInt32 >>> (Int32.toUInt32 1 &&& Int32.toUInt32 31)).toInt32 &&& 1431655765)).toUInt32 >>> (Int32.toUInt32 2 &&& Int32.toUInt32 31)).toInt32 &&& 858993459)) + ((((x0 - ((x0.toUInt32 >>> (Int32.toUInt32 1 &&& Int32.toUInt32 31)).toInt32 &&& 1431655765)) &&& 858993459) + (((x0 - ((x0.toUInt32 >>> (Int32.toUInt32 1 &&& Int32.toUInt32 31)).toInt32 &&& 1431655765)).toUInt32 >>> (Int32.toUInt32 2 &&& Int32.toUInt32 31)).toInt32 &&& 858993459)).toUInt32 >>> (Int32.toUInt32 4 &&& Int32.toUInt32 31)).toInt32) &&& 252645135).toUInt32 >>> (Int32.toUInt32 8 &&& Int32.toUInt32 31)).toInt32), .int ((((((x0 - ((x0.toUInt32 >>> (Int32.toUInt32 1 &&& Int32.toUInt32 31)).toInt32 &&& 1431655765)) &&& 858993459) + (((x0 - ((x0.toUInt32 >>> (Int32.toUInt32 1 &&& Int32.toUInt32 31)).toInt32 &&& 1431655765)).toUInt32 >>> (Int32.toUInt32 2 &&& Int32.toUInt32 31)).toInt32 &&& 858993459)) + ((((x0 - ((x0.toUInt32 >>> (Int32.toUInt32 1 &&& Int32.toUInt32 31)).toInt32 &&& 1431655765)) &&& 858993459) + (((x0 - ((x0.toUInt32 >>> (Int32.toUInt32 1 &&& Int32.toUInt32 31)).toInt32 &&& 1431655765)).toUInt32 >>> (Int32.toUInt32 2 &&& Int32.toUInt32 31)).toInt32 &&& 858993459)).toUInt32 >>> (Int32.toUInt32 4 &&& Int32.toUInt32 31)).toInt32) &&& 252645135) + ((((((x0 - ((x0.toUInt32 >>> (Int32.toUInt32 1 &&& Int32.toUInt32 31)).toInt32 &&& 1431655765)) &&& 858993459) + (((x0 - ((x0.toUInt32 >>> (Int32.toUInt32 1 &&& Int32.toUInt32 31)).toInt32 &&& 1431655765)).toUInt32 >>> (Int32.toUInt32 2 &&& Int32.toUInt32 31)).toInt32 &&& 858993459)) + ((((x0 - ((x0.toUInt32 >>> (Int32.toUInt32 1 &&& Int32.toUInt32 31)).toInt32 &&& 1431655765)) &&& 858993459) + (((x0 - ((x0.toUInt32 >>> (Int32.toUInt32 1 &&& Int32.toUInt32 31)).toInt32 &&& 1431655765)).toUInt32 >>> (Int32.toUInt32 2 &&& Int32.toUInt32 31)).toInt32 &&& 858993459)).toUInt32 >>> (Int32.toUInt32 4 &&& Int32.toUInt32 31)).toInt32) &&& 252645135).toUInt32 >>> (Int32.toUInt32 8 &&& Int32.toUInt32 31)).toInt32)]) (by decide +kernel) (fun _ => rfl)).trans ?_
  refine (R_bipush (n := 16) (v := 16) (by decide +kernel) (by decide +kernel)).trans ?_
  refine (R_pure0 (ins := .iushr) (len := 1) (loc' := [.int ((((((x0 - ((x0.toUInt32 >>> (Int32.toUInt32 1 &&& Int32.toUInt32 31)).toInt32 &&& 1431655765)) &&& 858993459) + (((x0 - ((x0.toUInt32 >>> (Int32.toUInt32 1 &&& Int32.toUInt32 31)).toInt32 &&& 1431655765)).toUInt32 >>> (Int32.toUInt32 2 &&& Int32.toUInt32 31)).toInt32 &&& 858993459)) + ((((x0 - ((x0.toUInt32 >>> (Int32.toUInt32 1 &&& Int32.toUInt32 31)).toInt32 &&& 1431655765)) &&& 858993459) + (((x0 - ((x0.toUInt32 >>> (Int32.toUInt32 1 &&& Int32.toUInt32 31)).toInt32 &&& 1431655765)).toUInt32 >>> (Int32.toUInt32 2 &&& Int32.toUInt32 31)).toInt32 &&& 858993459)).toUInt32 >>> (Int32.toUInt32 4 &&& Int32.toUInt32 31)).toInt32) &&& 252645135) + ((((((x0 - ((x0.toUInt32 >>> (Int32.toUInt32 1 &&& Int32.toUInt32 31)).toInt32 &&& 1431655765)) &&& 858993459) + (((x0 - ((x0.toUInt32 >>> (Int32.toUInt32 1 &&& Int32.toUInt32 31)).toInt32 &&& 1431655765)).toUInt32 >>> (Int32.toUInt32 2 &&& Int32.toUInt32 31)).toInt32 &&& 858993459)) + ((((x0 - ((x0.toUInt32 >>> (Int32.toUInt32 1 &&& Int32.toUInt32 31)).toInt32 &&& 1431655765)) &&& 858993459) + (((x0 - ((x0.toUInt32 >>> (Int32.toUInt32 1 &&& Int32.toUInt32 31)).toInt32 &&& 1431655765)).toUInt32 >>> (Int32.toUInt32 2 &&& Int32.toUInt32 31)).toInt32 &&& 858993459)).toUInt32 >>> (Int32.toUInt32 4 &&& Int32.toUInt32 31)).toInt32) &&& 252645135).toUInt32 >>> (Int32.toUInt32 8 &&& Int32.toUInt32 31)).toInt32)]) (st' := [.int (((((((x0 - ((x0.toUInt32 >>> (Int32.toUInt32 1 &&& Int32.toUInt32 31)).toInt32 &&& 1431655765)) &&& 858993459) + (((x0 - ((x0.toUInt32 >>> (Int32.toUInt32 1 &&& Int32.toUInt32 31)).toInt32 &&& 1431655765)).toUInt32 >>> (Int32.toUInt32 2 &&& Int32.toUInt32 31)).toInt32 &&& 858993459)) + ((((x0 - ((x0.toUInt32 >>> (Int32.toUInt32 1 &&& Int32.toUInt32 31)).toInt32 &&& 1431655765)) &&& 858993459) + (((x0 - ((x0.toUInt32 >>> (Int32.toUInt32 1 &&& Int32.toUInt32 31)).toInt32 &&& 1431655765)).toUInt32 >>> (Int32.toUInt32 2 &&& Int32.toUInt32 31)).toInt32 &&& 858993459)).toUInt32 >>> (Int32.toUInt32 4 &&& Int32.toUInt32 31)).toInt32) &&& 252645135) + ((((((x0 - ((x0.toUInt32 >>> (Int32.toUInt32 1 &&& Int32.toUInt32 31)).toInt32 &&& 1431655765)) &&& 858993459) + (((x0 - ((x0.toUInt32 >>> (Int32.toUInt32 1 &&& Int32.toUInt32 31)).toInt32 &&& 1431655765)).toUInt32 >>> (Int32.toUInt32 2 &&& Int32.toUInt32 31)).toInt32 &&& 858993459)) + ((((x0 - ((x0.toUInt32 >>> (Int32.toUInt32 1 &&& Int32.toUInt32 31)).toInt32 &&& 1431655765)) &&& 858993459) + (((x0 - ((x0.toUInt32 >>> (Int32.toUInt32 1 &&& Int32.toUInt32 31)).toInt32 &&& 1431655765)).toUInt32 >>> (Int32.toUInt32 2 &&& Int32.toUInt32 31)).toInt32 &&& 858993459)).toUInt32 >>> (Int32.toUInt32 4 &&& Int32.toUInt32 31)).toInt32) &&& 252645135).toUInt32 >>> (Int32.toUInt32 8 &&& Int32.toUInt32 31)).toInt32).toUInt32 >>> (Int32.toUInt32 16 &&& Int32.toUInt32 31)).toInt32, .int ((((((x0 - ((x0.toUInt32 >>> (Int32.toUInt32 1 &&& Int32.toUInt32 31)).toInt32 &&& 1431655765)) &&& 858993459) + (((x0 - ((x0.toUInt32 >>> (Int32.toUInt32 1 &&& Int32.toUInt32 31)).toInt32 &&& 1431655765)).toUInt32 >>> (Int32.toUInt32 2 &&& Int32.toUInt32 31)).toInt32 &&& 858993459)) + ((((x0 - ((x0.toUInt32 >>> (Int32.toUInt32 1 &&& Int32.toUInt32 31)).toInt32 &&& 1431655765)) &&& 858993459) + (((x0 - ((x0.toUInt32 >>> (Int32.toUInt32 1 &&& Int32.toUInt32 31)).toInt32 &&& 1431655765)).toUInt32 >>> (Int32.toUInt32 2 &&& Int32.toUInt32 31)).toInt32 &&& 858993459)).toUInt32 >>> (Int32.toUInt32 4 &&& Int32.toUInt32 31)).toInt32) &&& 252645135) + ((((((x0 - ((x0.toUInt32 >>> (Int32.toUInt32 1 &&& Int32.toUInt32 31)).toInt32 &&& 1431655765)) &&& 858993459) + (((x0 - ((x0.toUInt32 >>> (Int32.toUInt32 1 &&& Int32.toUInt32 31)).toInt32 &&& 1431655765)).toUInt32 >>> (Int32.toUInt32 2 &&& Int32.toUInt32 31)).toInt32 &&& 858993459)) + ((((x0 - ((x0.toUInt32 >>> (Int32.toUInt32 1 &&& Int32.toUInt32 31)).toInt32 &&& 1431655765)) &&& 858993459) + (((x0 - ((x0.toUInt32 >>> (Int32.toUInt32 1 &&& Int32.toUInt32 31)).toInt32 &&& 1431655765)).toUInt32 >>> (Int32.toUInt32 2 &&& Int32.toUInt32 31)).toInt32 &&& 858993459)).toUInt32 >>> (Int32.toUInt32 4 &&& Int32.toUInt32 31)).toInt32) &&& 252645135).toUInt32 >>> (Int32.toUInt32 8 &&& Int32.toUInt32 31)).toInt32)]) (by decide +kernel) (fun _ => rfl)).trans ?_
  refine (R_pure0 (ins := .iadd) (len := 1) (loc' := [.int ((((((x0 - ((x0.toUInt32 >>> (Int32.toUInt32 1 &&& Int32.toUInt32 31)).toInt32 &&& 1431655765)) &&& 858993459) + (((x0 - ((x0.toUInt32 >>> (Int32.toUInt32 1 &&& Int32.toUInt32 31)).toInt32 &&& 1431655765)).toUInt32 >>> (Int32.toUInt32 2 &&& Int32.toUInt32 31)).toInt32 &&& 858993459)) + ((((x0 - ((x0.toUInt32 >>> (Int32.toUInt32 1 &&& Int32.toUInt32 31)).toInt32 &&& 1431655765)) &&& 858993459) + (((x0 - ((x0.toUInt32 >>> (Int32.toUInt32 1 &&& Int32.toUInt32 31)).toInt32 &&& 1431655765)).toUInt32 >>> (Int32.toUInt32 2 &&& Int32.toUInt32 31)).toInt32 &&& 858993459)).toUInt32 >>> (Int32.toUInt32 4 &&& Int32.toUInt32 31)).toInt32) &&& 252645135) + ((((((x0 - ((x0.toUInt32 >>> (Int32.toUInt32 1 &&& Int32.toUInt32 31)).toInt32 &&& 1431655765)) &&& 858993459) + (((x0 - ((x0.toUInt32 >>> (Int32.toUInt32 1 &&& Int32.toUInt32 31)).toInt32 &&& 1431655765)).toUInt32 >>> (Int32.toUInt32 2 &&& Int32.toUInt32 31)).toInt32 &&& 858993459)) + ((((x0 - ((x0.toUInt32 >>> (Int32.toUInt32 1 &&& Int32.toUInt32 31)).toInt32 &&& 1431655765)) &&& 858993459) + (((x0 - ((x0.toUInt32 >>> (Int32.toUInt32 1 &&& Int32.toUInt32 31)).toInt32 &&& 1431655765)).toUInt32 >>> (Int32.toUInt32 2 &&& Int32.toUInt32 31)).toInt32 &&& 858993459)).toUInt32 >>> (Int32.toUInt32 4 &&& Int32.toUInt32 31)).toInt32) &&& 252645135).toUInt32 >>> (Int32.toUInt32 8 &&& Int32.toUInt32 31)).toInt32)]) (st' := [.int (((((((x0 - ((x0.toUInt32 >>> (Int32.toUInt32 1 &&& Int32.toUInt32 31)).toInt32 &&& 1431655765)) &&& 858993459) + (((x0 - ((x0.toUInt32 >>> (Int32.toUInt32 1 &&& Int32.toUInt32 31)).toInt32 &&& 1431655765)).toUInt32 >>> (Int32.toUInt32 2 &&& Int32.toUInt32 31)).toInt32 &&& 858993459)) + ((((x0 - ((x0.toUInt32 >>> (Int32.toUInt32 1 &&& Int32.toUInt32 31)).toInt32 &&& 1431655765)) &&& 858993459) + (((x0 - ((x0.toUInt32 >>> (Int32.toUInt32 1 &&& Int32.toUInt32 31)).toInt32 &&& 1431655765)).toUInt32 >>> (Int32.toUInt32 2 &&& Int32.toUInt32 31)).toInt32 &&& 858993459)).toUInt32 >>> (Int32.toUInt32 4 &&& Int32.toUInt32 31)).toInt32) &&& 252645135) + ((((((x0 - ((x0.toUInt32 >>> (Int32.toUInt32 1 &&& Int32.toUInt32 31)).toInt32 &&& 1431655765)) &&& 858993459) + (((x0 - ((x0.toUInt32 >>> (Int32.toUInt32 1 &&& Int32.toUInt32 31)).toInt32 &&& 1431655765)).toUInt32 >>> (Int32.toUInt32 2 &&& Int32.toUInt32 31)).toInt32 &&& 858993459)) + ((((x0 - ((x0.toUInt32 >>> (Int32.toUInt32 1 &&& Int32.toUInt32 31)).toInt32 &&& 1431655765)) &&& 858993459) + (((x0 - ((x0.toUInt32 >>> (Int32.toUInt32 1 &&& Int32.toUInt32 31)).toInt32 &&& 1431655765)).toUInt32 >>> (Int32.toUInt32 2 &&& Int32.toUInt32 31)).toInt32 &&& 858993459)).toUInt32 >>> (Int32.toUInt32 4 &&& Int32.toUInt32 31)).toInt32) &&& 252645135).toUInt32 >>> (Int32.toUInt32 8 &&& Int32.toUInt32 31)).toInt32) + (((((((x0 - ((x0.toUInt32 >>> (Int32.toUInt32 1 &&& Int32.toUInt32 31)).toInt32 &&& 1431655765)) &&& 858993459) + (((x0 - ((x0.toUInt32 >>> (Int32.toUInt32 1 &&& Int32.toUInt32 31)).toInt32 &&& 1431655765)).toUInt32 >>> (Int32.toUInt32 2 &&& Int32.toUInt32 31)).toInt32 &&& 858993459)) + ((((x0 - ((x0.toUInt32 >>> (Int32.toUInt32 1 &&& Int32.toUInt32 31)).toInt32 &&& 1431655765)) &&& 858993459) + (((x0 - ((x0.toUInt32 >>> (Int32.toUInt32 1 &&& Int32.toUInt32 31)).toInt32 &&& 1431655765)).toUInt32 >>> (Int32.toUInt32 2 &&& Int32.toUInt32 31)).toInt32 &&& 858993459)).toUInt32 >>> (Int32.toUInt32 4 &&& Int32.toUInt32 31)).toInt32) &&& 252645135) + ((((((x0 - ((x0.toUInt32 >>> (Int32.toUInt32 1 &&& Int32.toUInt32 31)).toInt32 &&& 1431655765)) &&& 858993459) + (((x0 - ((x0.toUInt32 >>> (Int32.toUInt32 1 &&& Int32.toUInt32 31)).toInt32 &&& 1431655765)).toUInt32 >>> (Int32.toUInt32 2 &&& Int32.toUInt32 31)).toInt32 &&& 858993459)) + ((((x0 - ((x0.toUInt32 >>> (Int32.toUInt32 1 &&& Int32.toUInt32 31)).toInt32 &&& 1431655765)) &&& 858993459) + (((x0 - ((x0.toUInt32 >>> (Int32.toUInt32 1 &&& Int32.toUInt32 31)).toInt32 &&& 1431655765)).toUInt32 >>> (Int32.toUInt32 2 &&& Int32.toUInt32 31)).toInt32 &&& 858993459)).toUInt32 >>> (Int32.toUInt32 4 &&& Int32.toUInt32 31)).toInt32) &&& 252645135).toUInt32 >>> (Int32.toUInt32 8 &&& Int32.toUInt32 31)).toInt32).toUInt32 >>> (Int32.toUInt32 16 &&& Int32.toUInt32 31)).toInt32)]) (by decide +kernel) (fun _ => rfl)).trans ?_
  refine (R_pure0 (ins := .istore_n 0) (len := 1) (loc' := [.int (((((((x0 - ((x0.toUInt32 >>> (Int32.toUInt32 1 &&& Int32.toUInt32 31)).toInt32 &&& 1431655765)) &&& 858993459) + (((x0 - ((x0.toUInt32 >>> (Int32.toUInt32 1 &&& Int32.toUInt32 31)).toInt32 &&& 1431655765)).toUInt32 >>> (Int32.toUInt32 2 &&& Int32.toUInt32 31)).toInt32 &&& 858993459)) + ((((x0 - ((x0.toUInt32 >>> (Int32.toUInt32 1 &&& Int32.toUInt32 31)).toInt32 &&& 1431655765)) &&& 858993459) + (((x0 - ((x0.toUInt32 >>> (Int32.toUInt32 1 &&& Int32.toUInt32 31)).toInt32 &&& 1431655765)).toUInt32 >>> (Int32.toUInt32 2 &&& Int32.toUInt32 31)).toInt32 &&& 858993459)).toUInt32 >>> (Int32.toUInt32 4 &&& Int32.toUInt32 31)).toInt32) &&& 252645135) + ((((((x0 - ((x0.toUInt32 >>> (Int32.toUInt32 1 &&& Int32.toUInt32 31)).toInt32 &&& 1431655765)) &&& 858993459) + (((x0 - ((x0.toUInt32 >>> (Int32.toUInt32 1 &&& Int32.toUInt32 31)).toInt32 &&& 1431655765)).toUInt32 >>> (Int32.toUInt32 2 &&& Int32.toUInt32 31)).toInt32 &&& 858993459)) + ((((x0 - ((x0.toUInt32 >>> (Int32.toUInt32 1 &&& Int32.toUInt32 31)).toInt32 &&& 1431655765)) &&& 858993459) + (((x0 - ((x0.toUInt32 >>> (Int32.toUInt32 1 &&& Int32.toUInt32 31)).toInt32 &&& 1431655765)).toUInt32 >>> (Int32.toUInt32 2 &&& Int32.toUInt32 31)).toInt32 &&& 858993459)).toUInt32 >>> (Int32.toUInt32 4 &&& Int32.toUInt32 31)).toInt32) &&& 252645135).toUInt32 >>> (Int32.toUInt32 8 &&& Int32.toUInt32 31)).toInt32) + (((((((x0 - ((x0.toUInt32 >>> (Int32.toUInt32 1 &&& Int32.toUInt32 31)).toInt32 &&& 1431655765)) &&& 858993459) + (((x0 - ((x0.toUInt32 >>> (Int32.toUInt32 1 &&& Int32.toUInt32 31)).toInt32 &&& 1431655765)).toUInt32 >>> (Int32.toUInt32 2 &&& Int32.toUInt32 31)).toInt32 &&& 858993459)) + ((((x0 - ((x0.toUInt32 >>> (Int32.toUInt32 1 &&& Int32.toUInt32 31)).toInt32 &&& 1431655765)) &&& 858993459) + (((x0 - ((x0.toUInt32 >>> (Int32.toUInt32 1 &&& Int32.toUInt32 31)).toInt32 &&& 1431655765)).toUInt32 >>> (Int32.toUInt32 2 &&& Int32.toUInt32 31)).toInt32 &&& 858993459)).toUInt32 >>> (Int32.toUInt32 4 &&& Int32.toUInt32 31)).toInt32) &&& 252645135) + ((((((x0 - ((x0.toUInt32 >>> (Int32.toUInt32 1 &&& Int32.toUInt32 31)).toInt32 &&& 1431655765)) &&& 858993459) + (((x0 - ((x0.toUInt32 >>> (Int32.toUInt32 1 &&& Int32.toUInt32 31)).toInt32 &&& 1431655765)).toUInt32 >>> (Int32.toUInt32 2 &&& Int32.toUInt32 31)).toInt32 &&& 858993459)) + ((((x0 - ((x0.toUInt32 >>> (Int32.toUInt32 1 &&& Int32.toUInt32 31)).toInt32 &&& 1431655765)) &&& 858993459) + (((x0 - ((x0.toUInt32 >>> (Int32.toUInt32 1 &&& Int32.toUInt32 31)).toInt32 &&& 1431655765)).toUInt32 >>> (Int32.toUInt32 2 &&& Int32.toUInt32 31)).toInt32 &&& 858993459)).toUInt32 >>> (Int32.toUInt32 4 &&& Int32.toUInt32 31)).toInt32) &&& 252645135).toUInt32 >>> (Int32.toUInt32 8 &&& Int32.toUInt32 31)).toInt32).toUInt32 >>> (Int32.toUInt32 16 &&& Int32.toUInt32 31)).toInt32)]) (st' := []) (by decide +kernel) (fun _ => rfl)).trans ?_
  refine (R_pure0 (ins := .iload_n 0) (len := 1) (loc' := [.int (((((((x0 - ((x0.toUInt32 >>> (Int32.toUInt32 1 &&& Int32.toUInt32 31)).toInt32 &&& 1431655765)) &&& 858993459) + (((x0 - ((x0.toUInt32 >>> (Int32.toUInt32 1 &&& Int32.toUInt32 31)).toInt32 &&& 1431655765)).toUInt32 >>> (Int32.toUInt32 2 &&& Int32.toUInt32 31)).toInt32 &&& 858993459)) + ((((x0 - ((x0.toUInt32 >>> (Int32.toUInt32 1 &&& Int32.toUInt32 31)).toInt32 &&& 1431655765)) &&& 858993459) + (((x0 - ((x0.toUInt32 >>> (Int32.toUInt32 1 &&& Int32.toUInt32 31)).toInt32 &&& 1431655765)).toUInt32 >>> (Int32.toUInt32 2 &&& Int32.toUInt32 31)).toInt32 &&& 858993459)).toUInt32 >>> (Int32.toUInt32 4 &&& Int32.toUInt32 31)).toInt32) &&& 252645135) + ((((((x0 - ((x0.toUInt32 >>> (Int32.toUInt32 1 &&& Int32.toUInt32 31)).toInt32 &&& 1431655765)) &&& 858993459) + (((x0 - ((x0.toUInt32 >>> (Int32.toUInt32 1 &&& Int32.toUInt32 31)).toInt32 &&& 1431655765)).toUInt32 >>> (Int32.toUInt32 2 &&& Int32.toUInt32 31)).toInt32 &&& 858993459)) + ((((x0 - ((x0.toUInt32 >>> (Int32.toUInt32 1 &&& Int32.toUInt32 31)).toInt32 &&& 1431655765)) &&& 858993459) + (((x0 - ((x0.toUInt32 >>> (Int32.toUInt32 1 &&& Int32.toUInt32 31)).toInt32 &&& 1431655765)).toUInt32 >>> (Int32.toUInt32 2 &&& Int32.toUInt32 31)).toInt32 &&& 858993459)).toUInt32 >>> (Int32.toUInt32 4 &&& Int32.toUInt32 31)).toInt32) &&& 252645135).toUInt32 >>> (Int32.toUInt32 8 &&& Int32.toUInt32 31)).toInt32) + (((((((x0 - ((x0.toUInt32 >>> (Int32.toUInt32 1 &&& Int32.toUInt32 31)).toInt32 &&& 1431655765)) &&& 858993459) + (((x0 - ((x0.toUInt32 >>> (Int32.toUInt32 1 &&& Int32.toUInt32 31)).toInt32 &&& 1431655765)).toUInt32 >>> (Int32.toUInt32 2 &&& Int32.toUInt32 31)).toInt32 &&& 858993459)) + ((((x0 - ((x0.toUInt32 >>> (Int32.toUInt32 1 &&& Int32.toUInt32 31)).toInt32 &&& 1431655765)) &&& 858993459) + (((x0 - ((x0.toUInt32 >>> (Int32.toUInt32 1 &&& Int32.toUInt32 31)).toInt32 &&& 1431655765)).toUInt32 >>> (Int32.toUInt32 2 &&& Int32.toUInt32 31)).toInt32 &&& 858993459)).toUInt32 >>> (Int32.toUInt32 4 &&& Int32.toUInt32 31)).toInt32) &&& 252645135) + ((((((x0 - ((x0.toUInt32 >>> (Int32.toUInt32 1 &&& Int32.toUInt32 31)).toInt32 &&& 1431655765)) &&& 858993459) + (((x0 - ((x0.toUInt32 >>> (Int32.toUInt32 1 &&& Int32.toUInt32 31)).toInt32 &&& 1431655765)).toUInt32 >>> (Int32.toUInt32 2 &&& Int32.toUInt32 31)).toInt32 &&& 858993459)) + ((((x0 - ((x0.toUInt32 >>> (Int32.toUInt32 1 &&& Int32.toUInt32 31)).toInt32 &&& 1431655765)) &&& 858993459) + (((x0 - ((x0.toUInt32 >>> (Int32.toUInt32 1 &&& Int32.toUInt32 31)).toInt32 &&& 1431655765)).toUInt32 >>> (Int32.toUInt32 2 &&& Int32.toUInt32 31)).toInt32 &&& 858993459)).toUInt32 >>> (Int32.toUInt32 4 &&& Int32.toUInt32 31)).toInt32) &&& 252645135).toUInt32 >>> (Int32.toUInt32 8 &&& Int32.toUInt32 31)).toInt32).toUInt32 >>> (Int32.toUInt32 16 &&& Int32.toUInt32 31)).toInt32)]) (st' := [.int (((((((x0 - ((x0.toUInt32 >>> (Int32.toUInt32 1 &&& Int32.toUInt32 31)).toInt32 &&& 1431655765)) &&& 858993459) + (((x0 - ((x0.toUInt32 >>> (Int32.toUInt32 1 &&& Int32.toUInt32 31)).toInt32 &&& 1431655765)).toUInt32 >>> (Int32.toUInt32 2 &&& Int32.toUInt32 31)).toInt32 &&& 858993459)) + ((((x0 - ((x0.toUInt32 >>> (Int32.toUInt32 1 &&& Int32.toUInt32 31)).toInt32 &&& 1431655765)) &&& 858993459) + (((x0 - ((x0.toUInt32 >>> (Int32.toUInt32 1 &&& Int32.toUInt32 31)).toInt32 &&& 1431655765)).toUInt32 >>> (Int32.toUInt32 2 &&& Int32.toUInt32 31)).toInt32 &&& 858993459)).toUInt32 >>> (Int32.toUInt32 4 &&& Int32.toUInt32 31)).toInt32) &&& 252645135) + ((((((x0 - ((x0.toUInt32 >>> (Int32.toUInt32 1 &&& Int32.toUInt32 31)).toInt32 &&& 1431655765)) &&& 858993459) + (((x0 - ((x0.toUInt32 >>> (Int32.toUInt32 1 &&& Int32.toUInt32 31)).toInt32 &&& 1431655765)).toUInt32 >>> (Int32.toUInt32 2 &&& Int32.toUInt32 31)).toInt32 &&& 858993459)) + ((((x0 - ((x0.toUInt32 >>> (Int32.toUInt32 1 &&& Int32.toUInt32 31)).toInt32 &&& 1431655765)) &&& 858993459) + (((x0 - ((x0.toUInt32 >>> (Int32.toUInt32 1 &&& Int32.toUInt32 31)).toInt32 &&& 1431655765)).toUInt32 >>> (Int32.toUInt32 2 &&& Int32.toUInt32 31)).toInt32 &&& 858993459)).toUInt32 >>> (Int32.toUInt32 4 &&& Int32.toUInt32 31)).toInt32) &&& 252645135).toUInt32 >>> (Int32.toUInt32 8 &&& Int32.toUInt32 31)).toInt32) + (((((((x0 - ((x0.toUInt32 >>> (Int32.toUInt32 1 &&& Int32.toUInt32 31)).toInt32 &&& 1431655765)) &&& 858993459) + (((x0 - ((x0.toUInt32 >>> (Int32.toUInt32 1 &&& Int32.toUInt32 31)).toInt32 &&& 1431655765)).toUInt32 >>> (Int32.toUInt32 2 &&& Int32.toUInt32 31)).toInt32 &&& 858993459)) + ((((x0 - ((x0.toUInt32 >>> (Int32.toUInt32 1 &&& Int32.toUInt32 31)).toInt32 &&& 1431655765)) &&& 858993459) + (((x0 - ((x0.toUInt32 >>> (Int32.toUInt32 1 &&& Int32.toUInt32 31)).toInt32 &&& 1431655765)).toUInt32 >>> (Int32.toUInt32 2 &&& Int32.toUInt32 31)).toInt32 &&& 858993459)).toUInt32 >>> (Int32.toUInt32 4 &&& Int32.toUInt32 31)).toInt32) &&& 252645135) + ((((((x0 - ((x0.toUInt32 >>> (Int32.toUInt32 1 &&& Int32.toUInt32 31)).toInt32 &&& 1431655765)) &&& 858993459) + (((x0 - ((x0.toUInt32 >>> (Int32.toUInt32 1 &&& Int32.toUInt32 31)).toInt32 &&& 1431655765)).toUInt32 >>> (Int32.toUInt32 2 &&& Int32.toUInt32 31)).toInt32 &&& 858993459)) + ((((x0 - ((x0.toUInt32 >>> (Int32.toUInt32 1 &&& Int32.toUInt32 31)).toInt32 &&& 1431655765)) &&& 858993459) + (((x0 - ((x0.toUInt32 >>> (Int32.toUInt32 1 &&& Int32.toUInt32 31)).toInt32 &&& 1431655765)).toUInt32 >>> (Int32.toUInt32 2 &&& Int32.toUInt32 31)).toInt32 &&& 858993459)).toUInt32 >>> (Int32.toUInt32 4 &&& Int32.toUInt32 31)).toInt32) &&& 252645135).toUInt32 >>> (Int32.toUInt32 8 &&& Int32.toUInt32 31)).toInt32).toUInt32 >>> (Int32.toUInt32 16 &&& Int32.toUInt32 31)).toInt32)]) (by decide +kernel) (fun _ => rfl)).trans ?_
  refine (R_bipush (n := 63) (v := 63) (by decide +kernel) (by decide +kernel)).trans ?_
  refine (R_pure0 (ins := .iand) (len := 1) (loc' := [.int (((((((x0 - ((x0.toUInt32 >>> (Int32.toUInt32 1 &&& Int32.toUInt32 31)).toInt32 &&& 1431655765)) &&& 858993459) + (((x0 - ((x0.toUInt32 >>> (Int32.toUInt32 1 &&& Int32.toUInt32 31)).toInt32 &&& 1431655765)).toUInt32 >>> (Int32.toUInt32 2 &&& Int32.toUInt32 31)).toInt32 &&& 858993459)) + ((((x0 - ((x0.toUInt32 >>> (Int32.toUInt32 1 &&& Int32.toUInt32 31)).toInt32 &&& 1431655765)) &&& 858993459) + (((x0 - ((x0.toUInt32 >>> (Int32.toUInt32 1 &&& Int32.toUInt32 31)).toInt32 &&& 1431655765)).toUInt32 >>> (Int32.toUInt32 2 &&& Int32.toUInt32 31)).toInt32 &&& 858993459)).toUInt32 >>> (Int32.toUInt32 4 &&& Int32.toUInt32 31)).toInt32) &&& 252645135) + ((((((x0 - ((x0.toUInt32 >>> (Int32.toUInt32 1 &&& Int32.toUInt32 31)).toInt32 &&& 1431655765)) &&& 858993459) + (((x0 - ((x0.toUInt32 >>> (Int32.toUInt32 1 &&& Int32.toUInt32 31)).toInt32 &&& 1431655765)).toUInt32 >>> (Int32.toUInt32 2 &&& Int32.toUInt32 31)).toInt32 &&& 858993459)) + ((((x0 - ((x0.toUInt32 >>> (Int32.toUInt32 1 &&& Int32.toUInt32 31)).toInt32 &&& 1431655765)) &&& 858993459) + (((x0 - ((x0.toUInt32 >>> (Int32.toUInt32 1 &&& Int32.toUInt32 31)).toInt32 &&& 1431655765)).toUInt32 >>> (Int32.toUInt32 2 &&& Int32.toUInt32 31)).toInt32 &&& 858993459)).toUInt32 >>> (Int32.toUInt32 4 &&& Int32.toUInt32 31)).toInt32) &&& 252645135).toUInt32 >>> (Int32.toUInt32 8 &&& Int32.toUInt32 31)).toInt32) + (((((((x0 - ((x0.toUInt32 >>> (Int32.toUInt32 1 &&& Int32.toUInt32 31)).toInt32 &&& 1431655765)) &&& 858993459) + (((x0 - ((x0.toUInt32 >>> (Int32.toUInt32 1 &&& Int32.toUInt32 31)).toInt32 &&& 1431655765)).toUInt32 >>> (Int32.toUInt32 2 &&& Int32.toUInt32 31)).toInt32 &&& 858993459)) + ((((x0 - ((x0.toUInt32 >>> (Int32.toUInt32 1 &&& Int32.toUInt32 31)).toInt32 &&& 1431655765)) &&& 858993459) + (((x0 - ((x0.toUInt32 >>> (Int32.toUInt32 1 &&& Int32.toUInt32 31)).toInt32 &&& 1431655765)).toUInt32 >>> (Int32.toUInt32 2 &&& Int32.toUInt32 31)).toInt32 &&& 858993459)).toUInt32 >>> (Int32.toUInt32 4 &&& Int32.toUInt32 31)).toInt32) &&& 252645135) + ((((((x0 - ((x0.toUInt32 >>> (Int32.toUInt32 1 &&& Int32.toUInt32 31)).toInt32 &&& 1431655765)) &&& 858993459) + (((x0 - ((x0.toUInt32 >>> (Int32.toUInt32 1 &&& Int32.toUInt32 31)).toInt32 &&& 1431655765)).toUInt32 >>> (Int32.toUInt32 2 &&& Int32.toUInt32 31)).toInt32 &&& 858993459)) + ((((x0 - ((x0.toUInt32 >>> (Int32.toUInt32 1 &&& Int32.toUInt32 31)).toInt32 &&& 1431655765)) &&& 858993459) + (((x0 - ((x0.toUInt32 >>> (Int32.toUInt32 1 &&& Int32.toUInt32 31)).toInt32 &&& 1431655765)).toUInt32 >>> (Int32.toUInt32 2 &&& Int32.toUInt32 31)).toInt32 &&& 858993459)).toUInt32 >>> (Int32.toUInt32 4 &&& Int32.toUInt32 31)).toInt32) &&& 252645135).toUInt32 >>> (Int32.toUInt32 8 &&& Int32.toUInt32 31)).toInt32).toUInt32 >>> (Int32.toUInt32 16 &&& Int32.toUInt32 31)).toInt32)]) (st' := [.int ((((((((x0 - ((x0.toUInt32 >>> (Int32.toUInt32 1 &&& Int32.toUInt32 31)).toInt32 &&& 1431655765)) &&& 858993459) + (((x0 - ((x0.toUInt32 >>> (Int32.toUInt32 1 &&& Int32.toUInt32 31)).toInt32 &&& 1431655765)).toUInt32 >>> (Int32.toUInt32 2 &&& Int32.toUInt32 31)).toInt32 &&& 858993459)) + ((((x0 - ((x0.toUInt32 >>> (Int32.toUInt32 1 &&& Int32.toUInt32 31)).toInt32 &&& 1431655765)) &&& 858993459) + (((x0 - ((x0.toUInt32 >>> (Int32.toUInt32 1 &&& Int32.toUInt32 31)).toInt32 &&& 1431655765)).toUInt32 >>> (Int32.toUInt32 2 &&& Int32.toUInt32 31)).toInt32 &&& 858993459)).toUInt32 >>> (Int32.toUInt32 4 &&& Int32.toUInt32 31)).toInt32) &&& 252645135) + ((((((x0 - ((x0.toUInt32 >>> (Int32.toUInt32 1 &&& Int32.toUInt32 31)).toInt32 &&& 1431655765)) &&& 858993459) + (((x0 - ((x0.toUInt32 >>> (Int32.toUInt32 1 &&& Int32.toUInt32 31)).toInt32 &&& 1431655765)).toUInt32 >>> (Int32.toUInt32 2 &&& Int32.toUInt32 31)).toInt32 &&& 858993459)) + ((((x0 - ((x0.toUInt32 >>> (Int32.toUInt32 1 &&& Int32.toUInt32 31)).toInt32 &&& 1431655765)) &&& 858993459) + (((x0 - ((x0.toUInt32 >>> (Int32.toUInt32 1 &&& Int32.toUInt32 31)).toInt32 &&& 1431655765)).toUInt32 >>> (Int32.toUInt32 2 &&& Int32.toUInt32 31)).toInt32 &&& 858993459)).toUInt32 >>> (Int32.toUInt32 4 &&& Int32.toUInt32 31)).toInt32) &&& 252645135).toUInt32 >>> (Int32.toUInt32 8 &&& Int32.toUInt32 31)).toInt32) + (((((((x0 - ((x0.toUInt32 >>> (Int32.toUInt32 1 &&& Int32.toUInt32 31)).toInt32 &&& 1431655765)) &&& 858993459) + (((x0 - ((x0.toUInt32 >>> (Int32.toUInt32 1 &&& Int32.toUInt32 31)).toInt32 &&& 1431655765)).toUInt32 >>> (Int32.toUInt32 2 &&& Int32.toUInt32 31)).toInt32 &&& 858993459)) + ((((x0 - ((x0.toUInt32 >>> (Int32.toUInt32 1 &&& Int32.toUInt32 31)).toInt32 &&& 1431655765)) &&& 858993459) + (((x0 - ((x0.toUInt32 >>> (Int32.toUInt32 1 &&& Int32.toUInt32 31)).toInt32 &&& 1431655765)).toUInt32 >>> (Int32.toUInt32 2 &&& Int32.toUInt32 31)).toInt32 &&& 858993459)).toUInt32 >>> (Int32.toUInt32 4 &&& Int32.toUInt32 31)).toInt32) &&& 252645135) + ((((((x0 - ((x0.toUInt32 >>> (Int32.toUInt32 1 &&& Int32.toUInt32 31)).toInt32 &&& 1431655765)) &&& 858993459) + (((x0 - ((x0.toUInt32 >>> (Int32.toUInt32 1 &&& Int32.toUInt32 31)).toInt32 &&& 1431655765)).toUInt32 >>> (Int32.toUInt32 2 &&& Int32.toUInt32 31)).toInt32 &&& 858993459)) + ((((x0 - ((x0.toUInt32 >>> (Int32.toUInt32 1 &&& Int32.toUInt32 31)).toInt32 &&& 1431655765)) &&& 858993459) + (((x0 - ((x0.toUInt32 >>> (Int32.toUInt32 1 &&& Int32.toUInt32 31)).toInt32 &&& 1431655765)).toUInt32 >>> (Int32.toUInt32 2 &&& Int32.toUInt32 31)).toInt32 &&& 858993459)).toUInt32 >>> (Int32.toUInt32 4 &&& Int32.toUInt32 31)).toInt32) &&& 252645135).toUInt32 >>> (Int32.toUInt32 8 &&& Int32.toUInt32 31)).toInt32).toUInt32 >>> (Int32.toUInt32 16 &&& Int32.toUInt32 31)).toInt32) &&& 63)]) (by decide +kernel) (fun _ => rfl)).trans ?_
  exact R_ireturn (by decide +kernel) (by decide +kernel)
