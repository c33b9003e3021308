/-! segments with dead locals left open -/
theorem s1_9g {u10 : Value} {L : Nat} {mi : Nat → Nat → Int32} {ml : Nat → Nat → Int64} {d : Nat} {Q : Option Value → xM → Prop} {x9 : Int32} {x1 x3 x5 x7 : Int64} (h1 : (x9 < 200) → ((lg_cmp x7 0) = 0) → ¬ ((lg_cmp x5 0) = 0) → ¬ x5 = 0) (h2 : (x9 < 200) → ((lg_cmp x7 0) = 0) → ¬ ((lg_cmp x5 0) = 0) → ¬ x5 = 0) (h3 : (x9 < 200) → ¬ ((lg_cmp x7 0) = 0) → ¬ x7 = 0) (h4 : ¬ (x9 < 200) → ¬ ((lg_cmp x5 0) = 0) → ¬ x5 = 0) (h5 : ¬ (x9 < 200) → ¬ ((lg_cmp x5 0) = 0) → ¬ x5 = 0) : X 1 9 [.ref 65, .long x1, xmk, .long x3, xmk, .long x5, xmk, .long x7, xmk, .int x9, u10, xmk] [] (SH L, mi, ml, MR) d Q =
    if (x9 < 200) then (if ((lg_cmp x7 0) = 0) then (if ((lg_cmp x5 0) = 0) then (Q none (SH L, mi, (xw (xw ml 65 1 x1) 65 2 x3), MR)) else (Q none (SH L, mi, (xw (xw ml 65 1 (x1 / x5)) 65 2 (x3 / x5)), MR))) else (X 1 9 [.ref 65, .long x1, xmk, .long x3, xmk, .long x7, xmk, .long (x5 - x5 / x7 * x7), xmk, .int (x9 + 1), .long (x5 - x5 / x7 * x7), xmk] [] (SH L, mi, ml, MR) d Q)) else (if ((lg_cmp x5 0) = 0) then (Q none (SH L, mi, (xw (xw ml 65 1 x1) 65 2 x3), MR)) else (Q none (SH L, mi, (xw (xw ml 65 1 (x1 / x5)) 65 2 (x3 / x5)), MR))) := by
  refine (R_pure0 (ins := .iload 9) (len := 2) (loc' := [.ref 65, .long x1, xmk, .long x3, xmk, .long x5, xmk, .long x7, xmk, .int x9, u10, xmk]) (st' := [.int x9]) (by decide +kernel) (fun _ => rfl)).trans ?_
  refine (R_sipush (n := 200) (v := 200) (by decide +kernel) (by decide +kernel)).trans ?_
  refine (R_icmp_ge (off := 31) (t := 45) (by decide +kernel) (by decide +kernel)).trans (ite_congr rfl (fun c0 => ?_) (fun c0 => ?_))
  · refine (R_pure0 (ins := .lload 7) (len := 2) (loc' := [.ref 65, .long x1, xmk, .long x3, xmk, .long x5, xmk, .long x7, xmk, .int x9, u10, xmk]) (st' := [.long x7]) (by decide +kernel) (fun _ => rfl)).trans ?_
    refine (R_lconst (n := 0) (v := 0) (by decide +kernel) (by decide +kernel)).trans ?_
    refine (R_pure0 (ins := .lcmp) (len := 1) (loc' := [.ref 65, .long x1, xmk, .long x3, xmk, .long x5, xmk, .long x7, xmk, .int x9, u10, xmk]) (st' := [.int (lg_cmp x7 0)]) (by decide +kernel) (fun _ => rfl)).trans ?_
    refine (R_if_eq (off := 24) (t := 45) (by decide +kernel) (by decide +kernel)).trans (ite_congr rfl (fun c1 => ?_) (fun c1 => ?_))
    · refine (R_pure0 (ins := .aload_n 0) (len := 1) (loc' := [.ref 65, .long x1, xmk, .long x3, xmk, .long x5, xmk, .long x7, xmk, .int x9, u10, xmk]) (st' := [.ref 65]) (by decide +kernel) (fun _ => rfl)).trans ?_
      refine (R_pure0 (ins := .lload 5) (len := 2) (loc' := [.ref 65, .long x1, xmk, .long x3, xmk, .long x5, xmk, .long x7, xmk, .int x9, u10, xmk]) (st' := [.long x5, .ref 65]) (by decide +kernel) (fun _ => rfl)).trans ?_
      refine (R_lconst (n := 0) (v := 0) (by decide +kernel) (by decide +kernel)).trans ?_
      refine (R_pure0 (ins := .lcmp) (len := 1) (loc' := [.ref 65, .long x1, xmk, .long x3, xmk, .long x5, xmk, .long x7, xmk, .int x9, u10, xmk]) (st' := [.int (lg_cmp x5 0), .ref 65]) (by decide +kernel) (fun _ => rfl)).trans ?_
      refine (R_if_ne (off := 7) (t := 57) (by decide +kernel) (by decide +kernel)).trans (ite_congr rfl (fun c2 => ?_) (fun c2 => ?_))
      · refine (R_pure0 (ins := .lload_n 1) (len := 1) (loc' := [.ref 65, .long x1, xmk, .long x3, xmk, .long x5, xmk, .long x7, xmk, .int x9, u10, xmk]) (st' := [.long x1, .ref 65]) (by decide +kernel) (fun _ => rfl)).trans ?_
        refine (R_goto (off := 7) (t := 61) (by decide +kernel) (by decide +kernel)).trans ?_
        refine (R_pl (i := 15) (ci := 0) (k := 1) (n := 3) (by decide +kernel) (by decide +kernel) (by decide) rfl).trans ?_
        refine (R_pure0 (ins := .aload_n 0) (len := 1) (loc' := [.ref 65, .long x1, xmk, .long x3, xmk, .long x5, xmk, .long x7, xmk, .int x9, u10, xmk]) (st' := [.ref 65]) (by decide +kernel) (fun _ => rfl)).trans ?_
        refine (R_pure0 (ins := .lload 5) (len := 2) (loc' := [.ref 65, .long x1, xmk, .long x3, xmk, .long x5, xmk, .long x7, xmk, .int x9, u10, xmk]) (st' := [.long x5, .ref 65]) (by decide +kernel) (fun _ => rfl)).trans ?_
        refine (R_lconst (n := 0) (v := 0) (by decide +kernel) (by decide +kernel)).trans ?_
        refine (R_pure0 (ins := .lcmp) (len := 1) (loc' := [.ref 65, .long x1, xmk, .long x3, xmk, .long x5, xmk, .long x7, xmk, .int x9, u10, xmk]) (st' := [.int (lg_cmp x5 0), .ref 65]) (by decide +kernel) (fun _ => rfl)).trans ?_
        refine (R_if_ne (off := 7) (t := 76) (by decide +kernel) (by decide +kernel)).trans ((if_pos c2).trans ?_)
        refine (R_pure0 (ins := .lload_n 3) (len := 1) (loc' := [.ref 65, .long x1, xmk, .long x3, xmk, .long x5, xmk, .long x7, xmk, .int x9, u10, xmk]) (st' := [.long x3, .ref 65]) (by decide +kernel) (fun _ => rfl)).trans ?_
        refine (R_goto (off := 7) (t := 80) (by decide +kernel) (by decide +kernel)).trans ?_
        refine (R_pl (i := 19) (ci := 0) (k := 2) (n := 3) (by decide +kernel) (by decide +kernel) (by decide) rfl).trans ?_
        exact R_return (by decide +kernel) (by decide +kernel)
      · refine (R_pure0 (ins := .lload_n 1) (len := 1) (loc' := [.ref 65, .long x1, xmk, .long x3, xmk, .long x5, xmk, .long x7, xmk, .int x9, u10, xmk]) (st' := [.long x1, .ref 65]) (by decide +kernel) (fun _ => rfl)).trans ?_
        refine (R_pure0 (ins := .lload 5) (len := 2) (loc' := [.ref 65, .long x1, xmk, .long x3, xmk, .long x5, xmk, .long x7, xmk, .int x9, u10, xmk]) (st' := [.long x5, .long x1, .ref 65]) (by decide +kernel) (fun _ => rfl)).trans ?_
        refine (R_ldiv (x := x1) (y := x5) (by decide +kernel) (h1 c0 c1 c2)).trans ?_
        refine (R_pl (i := 15) (ci := 0) (k := 1) (n := 3) (by decide +kernel) (by decide +kernel) (by decide) rfl).trans ?_
        refine (R_pure0 (ins := .aload_n 0) (len := 1) (loc' := [.ref 65, .long x1, xmk, .long x3, xmk, .long x5, xmk, .long x7, xmk, .int x9, u10, xmk]) (st' := [.ref 65]) (by decide +kernel) (fun _ => rfl)).trans ?_
        refine (R_pure0 (ins := .lload 5) (len := 2) (loc' := [.ref 65, .long x1, xmk, .long x3, xmk, .long x5, xmk, .long x7, xmk, .int x9, u10, xmk]) (st' := [.long x5, .ref 65]) (by decide +kernel) (fun _ => rfl)).trans ?_
        refine (R_lconst (n := 0) (v := 0) (by decide +kernel) (by decide +kernel)).trans ?_
        refine (R_pure0 (ins := .lcmp) (len := 1) (loc' := [.ref 65, .long x1, xmk, .long x3, xmk, .long x5, xmk, .long x7, xmk, .int x9, u10, xmk]) (st' := [.int (lg_cmp x5 0), .ref 65]) (by decide +kernel) (fun _ => rfl)).trans ?_
        refine (R_if_ne (off := 7) (t := 76) (by decide +kernel) (by decide +kernel)).trans ((if_neg c2).trans ?_)
        refine (R_pure0 (ins := .lload_n 3) (len := 1) (loc' := [.ref 65, .long x1, xmk, .long x3, xmk, .long x5, xmk, .long x7, xmk, .int x9, u10, xmk]) (st' := [.long x3, .ref 65]) (by decide +kernel) (fun _ => rfl)).trans ?_
        refine (R_pure0 (ins := .lload 5) (len := 2) (loc' := [.ref 65, .long x1, xmk, .long x3, xmk, .long x5, xmk, .long x7, xmk, .int x9, u10, xmk]) (st' := [.long x5, .long x3, .ref 65]) (by decide +kernel) (fun _ => rfl)).trans ?_
        refine (R_ldiv (x := x3) (y := x5) (by decide +kernel) (h2 c0 c1 c2)).trans ?_
        refine (R_pl (i := 19) (ci := 0) (k := 2) (n := 3) (by decide +kernel) (by decide +kernel) (by decide) rfl).trans ?_
        exact R_return (by decide +kernel) (by decide +kernel)
    · refine (R_pure0 (ins := .lload 5) (len := 2) (loc' := [.ref 65, .long x1, xmk, .long x3, xmk, .long x5, xmk, .long x7, xmk, .int x9, u10, xmk]) (st' := [.long x5]) (by decide +kernel) (fun _ => rfl)).trans ?_
      refine (R_pure0 (ins := .lload 7) (len := 2) (loc' := [.ref 65, .long x1, xmk, .long x3, xmk, .long x5, xmk, .long x7, xmk, .int x9, u10, xmk]) (st' := [.long x7, .long x5]) (by decide +kernel) (fun _ => rfl)).trans ?_
      refine (R_lrem (x := x5) (y := x7) (by decide +kernel) (h3 c0 c1)).trans ?_
      refine (R_pure0 (ins := .lstore 10) (len := 2) (loc' := [.ref 65, .long x1, xmk, .long x3, xmk, .long x5, xmk, .long x7, xmk, .int x9, .long (x5 - x5 / x7 * x7), xmk]) (st' := []) (by decide +kernel) (fun _ => rfl)).trans ?_
      refine (R_pure0 (ins := .lload 7) (len := 2) (loc' := [.ref 65, .long x1, xmk, .long x3, xmk, .long x5, xmk, .long x7, xmk, .int x9, .long (x5 - x5 / x7 * x7), xmk]) (st' := [.long x7]) (by decide +kernel) (fun _ => rfl)).trans ?_
      refine (R_pure0 (ins := .lstore 5) (len := 2) (loc' := [.ref 65, .long x1, xmk, .long x3, xmk, .long x7, xmk, .long x7, xmk, .int x9, .long (x5 - x5 / x7 * x7), xmk]) (st' := []) (by decide +kernel) (fun _ => rfl)).trans ?_
      refine (R_pure0 (ins := .lload 10) (len := 2) (loc' := [.ref 65, .long x1, xmk, .long x3, xmk, .long x7, xmk, .long x7, xmk, .int x9, .long (x5 - x5 / x7 * x7), xmk]) (st' := [.long (x5 - x5 / x7 * x7)]) (by decide +kernel) (fun _ => rfl)).trans ?_
      refine (R_pure0 (ins := .lstore 7) (len := 2) (loc' := [.ref 65, .long x1, xmk, .long x3, xmk, .long x7, xmk, .long (x5 - x5 / x7 * x7), xmk, .int x9, .long (x5 - x5 / x7 * x7), xmk]) (st' := []) (by decide +kernel) (fun _ => rfl)).trans ?_
      refine (R_iinc (k := 9) (n := 1) (x := x9) (v := (x9 + 1)) (loc' := [.ref 65, .long x1, xmk, .long x3, xmk, .long x7, xmk, .long (x5 - x5 / x7 * x7), xmk, .int (x9 + 1), .long (x5 - x5 / x7 * x7), xmk]) (by decide +kernel) rfl rfl rfl).trans ?_
      refine (R_goto (off := (-33)) (t := 9) (by decide +kernel) (by decide +kernel)).trans ?_
      rfl
  · refine (R_pure0 (ins := .aload_n 0) (len := 1) (loc' := [.ref 65, .long x1, xmk, .long x3, xmk, .long x5, xmk, .long x7, xmk, .int x9, u10, xmk]) (st' := [.ref 65]) (by decide +kernel) (fun _ => rfl)).trans ?_
    refine (R_pure0 (ins := .lload 5) (len := 2) (loc' := [.ref 65, .long x1, xmk, .long x3, xmk, .long x5, xmk, .long x7, xmk, .int x9, u10, xmk]) (st' := [.long x5, .ref 65]) (by decide +kernel) (fun _ => rfl)).trans ?_
    refine (R_lconst (n := 0) (v := 0) (by decide +kernel) (by decide +kernel)).trans ?_
    refine (R_pure0 (ins := .lcmp) (len := 1) (loc' := [.ref 65, .long x1, xmk, .long x3, xmk, .long x5, xmk, .long x7, xmk, .int x9, u10, xmk]) (st' := [.int (lg_cmp x5 0), .ref 65]) (by decide +kernel) (fun _ => rfl)).trans ?_
    refine (R_if_ne (off := 7) (t := 57) (by decide +kernel) (by decide +kernel)).trans (ite_congr rfl (fun c3 => ?_) (fun c3 => ?_))
    · refine (R_pure0 (ins := .lload_n 1) (len := 1) (loc' := [.ref 65, .long x1, xmk, .long x3, xmk, .long x5, xmk, .long x7, xmk, .int x9, u10, xmk]) (st' := [.long x1, .ref 65]) (by decide +kernel) (fun _ => rfl)).trans ?_
      refine (R_goto (off := 7) (t := 61) (by decide +kernel) (by decide +kernel)).trans ?_
      refine (R_pl (i := 15) (ci := 0) (k := 1) (n := 3) (by decide +kernel) (by decide +kernel) (by decide) rfl).trans ?_
      refine (R_pure0 (ins := .aload_n 0) (len := 1) (loc' := [.ref 65, .long x1, xmk, .long x3, xmk, .long x5, xmk, .long x7, xmk, .int x9, u10, xmk]) (st' := [.ref 65]) (by decide +kernel) (fun _ => rfl)).trans ?_
      refine (R_pure0 (ins := .lload 5) (len := 2) (loc' := [.ref 65, .long x1, xmk, .long x3, xmk, .long x5, xmk, .long x7, xmk, .int x9, u10, xmk]) (st' := [.long x5, .ref 65]) (by decide +kernel) (fun _ => rfl)).trans ?_
      refine (R_lconst (n := 0) (v := 0) (by decide +kernel) (by decide +kernel)).trans ?_
      refine (R_pure0 (ins := .lcmp) (len := 1) (loc' := [.ref 65, .long x1, xmk, .long x3, xmk, .long x5, xmk, .long x7, xmk, .int x9, u10, xmk]) (st' := [.int (lg_cmp x5 0), .ref 65]) (by decide +kernel) (fun _ => rfl)).trans ?_
      refine (R_if_ne (off := 7) (t := 76) (by decide +kernel) (by decide +kernel)).trans ((if_pos c3).trans ?_)
      refine (R_pure0 (ins := .lload_n 3) (len := 1) (loc' := [.ref 65, .long x1, xmk, .long x3, xmk, .long x5, xmk, .long x7, xmk, .int x9, u10, xmk]) (st' := [.long x3, .ref 65]) (by decide +kernel) (fun _ => rfl)).trans ?_
      refine (R_goto (off := 7) (t := 80) (by decide +kernel) (by decide +kernel)).trans ?_
      refine (R_pl (i := 19) (ci := 0) (k := 2) (n := 3) (by decide +kernel) (by decide +kernel) (by decide) rfl).trans ?_
      exact R_return (by decide +kernel) (by decide +kernel)
    · refine (R_pure0 (ins := .lload_n 1) (len := 1) (loc' := [.ref 65, .long x1, xmk, .long x3, xmk, .long x5, xmk, .long x7, xmk, .int x9, u10, xmk]) (st' := [.long x1, .ref 65]) (by decide +kernel) (fun _ => rfl)).trans ?_
      refine (R_pure0 (ins := .lload 5) (len := 2) (loc' := [.ref 65, .long x1, xmk, .long x3, xmk, .long x5, xmk, .long x7, xmk, .int x9, u10, xmk]) (st' := [.long x5, .long x1, .ref 65]) (by decide +kernel) (fun _ => rfl)).trans ?_
      refine (R_ldiv (x := x1) (y := x5) (by decide +kernel) (h4 c0 c3)).trans ?_
      refine (R_pl (i := 15) (ci := 0) (k := 1) (n := 3) (by decide +kernel) (by decide +kernel) (by decide) rfl).trans ?_
      refine (R_pure0 (ins := .aload_n 0) (len := 1) (loc' := [.ref 65, .long x1, xmk, .long x3, xmk, .long x5, xmk, .long x7, xmk, .int x9, u10, xmk]) (st' := [.ref 65]) (by decide +kernel) (fun _ => rfl)).trans ?_
      refine (R_pure0 (ins := .lload 5) (len := 2) (loc' := [.ref 65, .long x1, xmk, .long x3, xmk, .long x5, xmk, .long x7, xmk, .int x9, u10, xmk]) (st' := [.long x5, .ref 65]) (by decide +kernel) (fun _ => rfl)).trans ?_
      refine (R_lconst (n := 0) (v := 0) (by decide +kernel) (by decide +kernel)).trans ?_
      refine (R_pure0 (ins := .lcmp) (len := 1) (loc' := [.ref 65, .long x1, xmk, .long x3, xmk, .long x5, xmk, .long x7, xmk, .int x9, u10, xmk]) (st' := [.int (lg_cmp x5 0), .ref 65]) (by decide +kernel) (fun _ => rfl)).trans ?_
      refine (R_if_ne (off := 7) (t := 76) (by decide +kernel) (by decide +kernel)).trans ((if_neg c3).trans ?_)
      refine (R_pure0 (ins := .lload_n 3) (len := 1) (loc' := [.ref 65, .long x1, xmk, .long x3, xmk, .long x5, xmk, .long x7, xmk, .int x9, u10, xmk]) (st' := [.long x3, .ref 65]) (by decide +kernel) (fun _ => rfl)).trans ?_
      refine (R_pure0 (ins := .lload 5) (len := 2) (loc' := [.ref 65, .long x1, xmk, .long x3, xmk, .long x5, xmk, .long x7, xmk, .int x9, u10, xmk]) (st' := [.long x5, .long x3, .ref 65]) (by decide +kernel) (fun _ => rfl)).trans ?_
      refine (R_ldiv (x := x3) (y := x5) (by decide +kernel) (h5 c0 c3)).trans ?_
      refine (R_pl (i := 19) (ci := 0) (k := 2) (n := 3) (by decide +kernel) (by decide +kernel) (by decide) rfl).trans ?_
      exact R_return (by decide +kernel) (by decide +kernel)
theorem s211_6g {u9 : Value} {L : Nat} {mi : Nat → Nat → Int32} {ml : Nat → Nat → Int64} {d : Nat} {Q : Option Value → xM → Prop} {x1 x3 x5 x7 : Int64} (h1 : ((lg_cmp x7 0) = 0) → ¬ x5 = 0) (h2 : ((lg_cmp x7 0) = 0) → ¬ x5 = 0) (h3 : ¬ ((lg_cmp x7 0) = 0) → ¬ x7 = 0) : X 211 6 [.ref 68, .long x1, xmk, .long x3, xmk, .long x5, xmk, .long x7, xmk, u9, xmk] [] (SH L, mi, ml, MR) d Q =
    if ((lg_cmp x7 0) = 0) then (Q (some (.int 1)) (SH L, mi, (xw (xw ml 68 15 (x1 / x5)) 68 16 (x3 / x5)), MR)) else (X 211 6 [.ref 68, .long x1, xmk, .long x3, xmk, .long x7, xmk, .long (x5 - x5 / x7 * x7), xmk, .long (x5 - x5 / x7 * x7), xmk] [] (SH L, mi, ml, MR) d Q) := by
  refine (R_pure0 (ins := .lload 7) (len := 2) (loc' := [.ref 68, .long x1, xmk, .long x3, xmk, .long x5, xmk, .long x7, xmk, u9, xmk]) (st' := [.long x7]) (by decide +kernel) (fun _ => rfl)).trans ?_
  refine (R_lconst (n := 0) (v := 0) (by decide +kernel) (by decide +kernel)).trans ?_
  refine (R_pure0 (ins := .lcmp) (len := 1) (loc' := [.ref 68, .long x1, xmk, .long x3, xmk, .long x5, xmk, .long x7, xmk, u9, xmk]) (st' := [.int (lg_cmp x7 0)]) (by decide +kernel) (fun _ => rfl)).trans ?_
  refine (R_if_eq (off := 21) (t := 31) (by decide +kernel) (by decide +kernel)).trans (ite_congr rfl (fun c0 => ?_) (fun c0 => ?_))
  · refine (R_pure0 (ins := .aload_n 0) (len := 1) (loc' := [.ref 68, .long x1, xmk, .long x3, xmk, .long x5, xmk, .long x7, xmk, u9, xmk]) (st' := [.ref 68]) (by decide +kernel) (fun _ => rfl)).trans ?_
    refine (R_pure0 (ins := .lload_n 1) (len := 1) (loc' := [.ref 68, .long x1, xmk, .long x3, xmk, .long x5, xmk, .long x7, xmk, u9, xmk]) (st' := [.long x1, .ref 68]) (by decide +kernel) (fun _ => rfl)).trans ?_
    refine (R_pure0 (ins := .lload 5) (len := 2) (loc' := [.ref 68, .long x1, xmk, .long x3, xmk, .long x5, xmk, .long x7, xmk, u9, xmk]) (st' := [.long x5, .long x1, .ref 68]) (by decide +kernel) (fun _ => rfl)).trans ?_
    refine (R_ldiv (x := x1) (y := x5) (by decide +kernel) (h1 c0)).trans ?_
    refine (R_pl (i := 246) (ci := 10) (k := 15) (n := 33) (by decide +kernel) (by decide +kernel) (by decide) rfl).trans ?_
    refine (R_pure0 (ins := .aload_n 0) (len := 1) (loc' := [.ref 68, .long x1, xmk, .long x3, xmk, .long x5, xmk, .long x7, xmk, u9, xmk]) (st' := [.ref 68]) (by decide +kernel) (fun _ => rfl)).trans ?_
    refine (R_pure0 (ins := .lload_n 3) (len := 1) (loc' := [.ref 68, .long x1, xmk, .long x3, xmk, .long x5, xmk, .long x7, xmk, u9, xmk]) (st' := [.long x3, .ref 68]) (by decide +kernel) (fun _ => rfl)).trans ?_
    refine (R_pure0 (ins := .lload 5) (len := 2) (loc' := [.ref 68, .long x1, xmk, .long x3, xmk, .long x5, xmk, .long x7, xmk, u9, xmk]) (st' := [.long x5, .long x3, .ref 68]) (by decide +kernel) (fun _ => rfl)).trans ?_
    refine (R_ldiv (x := x3) (y := x5) (by decide +kernel) (h2 c0)).trans ?_
    refine (R_pl (i := 47) (ci := 10) (k := 16) (n := 33) (by decide +kernel) (by decide +kernel) (by decide) rfl).trans ?_
    refine (R_iconst (n := 1) (v := 1) (by decide +kernel) (by decide +kernel)).trans ?_
    exact R_ireturn (by decide +kernel) (by decide +kernel)
  · refine (R_pure0 (ins := .lload 5) (len := 2) (loc' := [.ref 68, .long x1, xmk, .long x3, xmk, .long x5, xmk, .long x7, xmk, u9, xmk]) (st' := [.long x5]) (by decide +kernel) (fun _ => rfl)).trans ?_
    refine (R_pure0 (ins := .lload 7) (len := 2) (loc' := [.ref 68, .long x1, xmk, .long x3, xmk, .long x5, xmk, .long x7, xmk, u9, xmk]) (st' := [.long x7, .long x5]) (by decide +kernel) (fun _ => rfl)).trans ?_
    refine (R_lrem (x := x5) (y := x7) (by decide +kernel) (h3 c0)).trans ?_
    refine (R_pure0 (ins := .lstore 9) (len := 2) (loc' := [.ref 68, .long x1, xmk, .long x3, xmk, .long x5, xmk, .long x7, xmk, .long (x5 - x5 / x7 * x7), xmk]) (st' := []) (by decide +kernel) (fun _ => rfl)).trans ?_
    refine (R_pure0 (ins := .lload 7) (len := 2) (loc' := [.ref 68, .long x1, xmk, .long x3, xmk, .long x5, xmk, .long x7, xmk, .long (x5 - x5 / x7 * x7), xmk]) (st' := [.long x7]) (by decide +kernel) (fun _ => rfl)).trans ?_
    refine (R_pure0 (ins := .lstore 5) (len := 2) (loc' := [.ref 68, .long x1, xmk, .long x3, xmk, .long x7, xmk, .long x7, xmk, .long (x5 - x5 / x7 * x7), xmk]) (st' := []) (by decide +kernel) (fun _ => rfl)).trans ?_
    refine (R_pure0 (ins := .lload 9) (len := 2) (loc' := [.ref 68, .long x1, xmk, .long x3, xmk, .long x7, xmk, .long x7, xmk, .long (x5 - x5 / x7 * x7), xmk]) (st' := [.long (x5 - x5 / x7 * x7)]) (by decide +kernel) (fun _ => rfl)).trans ?_
    refine (R_pure0 (ins := .lstore 7) (len := 2) (loc' := [.ref 68, .long x1, xmk, .long x3, xmk, .long x7, xmk, .long (x5 - x5 / x7 * x7), xmk, .long (x5 - x5 / x7 * x7), xmk]) (st' := []) (by decide +kernel) (fun _ => rfl)).trans ?_
    refine (R_goto (off := (-22)) (t := 6) (by decide +kernel) (by decide +kernel)).trans ?_
    rfl
theorem s2_46g {u6 : Value} {L : Nat} {mi : Nat → Nat → Int32} {ml : Nat → Nat → Int64} {d : Nat} {Q : Option Value → xM → Prop} {x2 x3 x4 x5 : Int32} : X 2 46 [.ref 65, .ref 48, .int x2, .int x3, .int x4, .int x5, u6, xmk] [] (SH L, mi, ml, MR) d Q =
    if (x5 < x4) then (X 2 62 [.ref 65, .ref 48, .int x2, .int x3, .int x4, .int x5, .int (7 - 1), xmk] [] (SH L, mi, ml, MR) d Q) else (X 2 131 [.ref 65, .ref 48, .int x2, .int x3, .int x4, .long 0, xmk, .int (if x2 < 0 then 0 else x2)] [] (SH L, mi, ml, MR) d Q) := by
  refine (R_pure0 (ins := .iload 5) (len := 2) (loc' := [.ref 65, .ref 48, .int x2, .int x3, .int x4, .int x5, u6, xmk]) (st' := [.int x5]) (by decide +kernel) (fun _ => rfl)).trans ?_
  refine (R_pure0 (ins := .iload 4) (len := 2) (loc' := [.ref 65, .ref 48, .int x2, .int x3, .int x4, .int x5, u6, xmk]) (st' := [.int x4, .int x5]) (by decide +kernel) (fun _ => rfl)).trans ?_
  refine (R_icmp_ge (off := 71) (t := 121) (by decide +kernel) (by decide +kernel)).trans (ite_congr rfl (fun c0 => ?_) (fun c0 => ?_))
  · refine (R_pure0 (ins := .aload_n 0) (len := 1) (loc' := [.ref 65, .ref 48, .int x2, .int x3, .int x4, .int x5, u6, xmk]) (st' := [.ref 65]) (by decide +kernel) (fun _ => rfl)).trans ?_
    refine (R_gr (i := 9) (ci := 0) (k := 0) (n := 3) (b := 66) (by decide +kernel) (by decide +kernel) (by decide) rfl (SH_ref (by decide +kernel))).trans ?_
    refine (R_arraylength (kd := 101) (n := 7) (by decide +kernel) rfl (by decide)).trans ?_
    show X 2 58 [.ref 65, .ref 48, .int x2, .int x3, .int x4, .int x5, u6, xmk] [.int 7] (SH L, mi, ml, MR) _ _ = _
    refine (R_iconst (n := 1) (v := 1) (by decide +kernel) (by decide +kernel)).trans ?_
    refine (R_pure0 (ins := .isub) (len := 1) (loc' := [.ref 65, .ref 48, .int x2, .int x3, .int x4, .int x5, u6, xmk]) (st' := [.int (7 - 1)]) (by decide +kernel) (fun _ => rfl)).trans ?_
    refine (R_pure0 (ins := .istore 6) (len := 2) (loc' := [.ref 65, .ref 48, .int x2, .int x3, .int x4, .int x5, .int (7 - 1), xmk]) (st' := []) (by decide +kernel) (fun _ => rfl)).trans ?_
    rfl
  · refine (R_lconst (n := 0) (v := 0) (by decide +kernel) (by decide +kernel)).trans ?_
    refine (R_pure0 (ins := .lstore 5) (len := 2) (loc' := [.ref 65, .ref 48, .int x2, .int x3, .int x4, .long 0, xmk, xmk]) (st' := []) (by decide +kernel) (fun _ => rfl)).trans ?_
    refine (R_pure0 (ins := .iload_n 2) (len := 1) (loc' := [.ref 65, .ref 48, .int x2, .int x3, .int x4, .long 0, xmk, xmk]) (st' := [.int x2]) (by decide +kernel) (fun _ => rfl)).trans ?_
    refine (R_iconst (n := 0) (v := 0) (by decide +kernel) (by decide +kernel)).trans ?_
    refine (R_max (i := 28) (f := 0) (x := x2) (y := 0) (by decide +kernel) (by decide +kernel) rfl).trans ?_
    refine (R_pure0 (ins := .istore 7) (len := 2) (loc' := [.ref 65, .ref 48, .int x2, .int x3, .int x4, .long 0, xmk, .int (if x2 < 0 then 0 else x2)]) (st' := []) (by decide +kernel) (fun _ => rfl)).trans ?_
    rfl
theorem s3_21g {u9 : Value} {L : Nat} {mi : Nat → Nat → Int32} {ml : Nat → Nat → Int64} {d : Nat} {Q : Option Value → xM → Prop} {x2 x3 x8 : Int32} {x4 x6 : Int64} : X 3 21 [.ref 65, .ref 48, .int x2, .int x3, .long x4, xmk, .long x6, xmk, .int x8, u9] [] (SH L, mi, ml, MR) (d + 1) Q =
    if (x8 < 10) then (Xm 41 [.ref 48, .int x8] (SH L, mi, ml, MR) d (fun v μ' => X 3 34 [.ref 65, .ref 48, .int x2, .int x3, .long x4, xmk, .long x6, xmk, .int x8, u9] (v.toList ++ []) μ' (d + 1) Q)) else (Xm 1 [.ref 65, .long x6, .long x4] (SH L, mi, ml, MR) d (fun v μ' => X 3 76 [.ref 65, .ref 48, .int x2, .int x3, .long x4, xmk, .long x6, xmk, .int x8, u9] (v.toList ++ []) μ' (d + 1) Q)) := by
  refine (R_pure0 (ins := .iload 8) (len := 2) (loc' := [.ref 65, .ref 48, .int x2, .int x3, .long x4, xmk, .long x6, xmk, .int x8, u9]) (st' := [.int x8]) (by decide +kernel) (fun _ => rfl)).trans ?_
  refine (R_bipush (n := 10) (v := 10) (by decide +kernel) (by decide +kernel)).trans ?_
  refine (R_icmp_ge (off := 43) (t := 68) (by decide +kernel) (by decide +kernel)).trans (ite_congr rfl (fun c0 => ?_) (fun c0 => ?_))
  · refine (R_pure0 (ins := .aload_n 1) (len := 1) (loc' := [.ref 65, .ref 48, .int x2, .int x3, .long x4, xmk, .long x6, xmk, .int x8, u9]) (st' := [.ref 48]) (by decide +kernel) (fun _ => rfl)).trans ?_
    refine (R_pure0 (ins := .iload 8) (len := 2) (loc' := [.ref 65, .ref 48, .int x2, .int x3, .long x4, xmk, .long x6, xmk, .int x8, u9]) (st' := [.int x8, .ref 48]) (by decide +kernel) (fun _ => rfl)).trans ?_
    refine (R_virt (i := 22) (f := 41) (kd := 0) (na := 1) (ml := 4) (ci := 3) (n := 3) (b := 48) (As := [.int x8]) (rest := []) (by decide +kernel) (by decide +kernel) (by decide) (by decide +kernel) rfl (by decide +kernel) rfl rfl (by decide +kernel) (Nat.le_of_ble_eq_true rfl)).trans ?_
    rfl
  · refine (R_pure0 (ins := .aload_n 0) (len := 1) (loc' := [.ref 65, .ref 48, .int x2, .int x3, .long x4, xmk, .long x6, xmk, .int x8, u9]) (st' := [.ref 65]) (by decide +kernel) (fun _ => rfl)).trans ?_
    refine (R_pure0 (ins := .lload 6) (len := 2) (loc' := [.ref 65, .ref 48, .int x2, .int x3, .long x4, xmk, .long x6, xmk, .int x8, u9]) (st' := [.long x6, .ref 65]) (by decide +kernel) (fun _ => rfl)).trans ?_
    refine (R_pure0 (ins := .lload 4) (len := 2) (loc' := [.ref 65, .ref 48, .int x2, .int x3, .long x4, xmk, .long x6, xmk, .int x8, u9]) (st' := [.long x4, .long x6, .ref 65]) (by decide +kernel) (fun _ => rfl)).trans ?_
    refine (R_virt (i := 40) (f := 1) (kd := 0) (na := 2) (ml := 12) (ci := 0) (n := 3) (b := 65) (As := [.long x6, .long x4]) (rest := []) (by decide +kernel) (by decide +kernel) (by decide) (by decide +kernel) rfl (by decide +kernel) rfl rfl (by decide +kernel) (Nat.le_of_ble_eq_true rfl)).trans ?_
    rfl
theorem s3_34g {u9 : Value} {L : Nat} {mi : Nat → Nat → Int32} {ml : Nat → Nat → Int64} {d : Nat} {Q : Option Value → xM → Prop} {x2 x3 x8 y : Int32} {x4 x6 : Int64} : X 3 34 [.ref 65, .ref 48, .int x2, .int x3, .long x4, xmk, .long x6, xmk, .int x8, u9] [.int y] (SH L, mi, ml, MR) (d + 1) Q =
    Xm 4 [.long x2.toInt64, .int y] (SH L, mi, ml, MR) d (fun v μ' => X 3 47 [.ref 65, .ref 48, .int x2, .int x3, .long x4, xmk, .long x6, xmk, .int x8, .int y] (v.toList ++ [.long x4, .long x6]) μ' (d + 1) Q) := by
  refine (R_pure0 (ins := .istore 9) (len := 2) (loc' := [.ref 65, .ref 48, .int x2, .int x3, .long x4, xmk, .long x6, xmk, .int x8, .int y]) (st' := []) (by decide +kernel) (fun _ => rfl)).trans ?_
  refine (R_pure0 (ins := .lload 6) (len := 2) (loc' := [.ref 65, .ref 48, .int x2, .int x3, .long x4, xmk, .long x6, xmk, .int x8, .int y]) (st' := [.long x6]) (by decide +kernel) (fun _ => rfl)).trans ?_
  refine (R_pure0 (ins := .lload 4) (len := 2) (loc' := [.ref 65, .ref 48, .int x2, .int x3, .long x4, xmk, .long x6, xmk, .int x8, .int y]) (st' := [.long x4, .long x6]) (by decide +kernel) (fun _ => rfl)).trans ?_
  refine (R_pure0 (ins := .iload_n 2) (len := 1) (loc' := [.ref 65, .ref 48, .int x2, .int x3, .long x4, xmk, .long x6, xmk, .int x8, .int y]) (st' := [.int x2, .long x4, .long x6]) (by decide +kernel) (fun _ => rfl)).trans ?_
  refine (R_pure0 (ins := .i2l) (len := 1) (loc' := [.ref 65, .ref 48, .int x2, .int x3, .long x4, xmk, .long x6, xmk, .int x8, .int y]) (st' := [.long x2.toInt64, .long x4, .long x6]) (by decide +kernel) (fun _ => rfl)).trans ?_
  refine (R_pure0 (ins := .iload 9) (len := 2) (loc' := [.ref 65, .ref 48, .int x2, .int x3, .long x4, xmk, .long x6, xmk, .int x8, .int y]) (st' := [.int y, .long x2.toInt64, .long x4, .long x6]) (by decide +kernel) (fun _ => rfl)).trans ?_
  refine (R_static (i := 36) (f := 4) (kd := 2) (na := 2) (ml := 6) (As := [.long x2.toInt64, .int y]) (rest := [.long x4, .long x6]) (by decide +kernel) (by decide +kernel) (by decide) (by decide +kernel) rfl rfl (by decide +kernel) (Nat.le_of_ble_eq_true rfl)).trans ?_
  rfl
theorem s3_76g {u9 : Value} {L : Nat} {mi : Nat → Nat → Int32} {ml : Nat → Nat → Int64} {d : Nat} {Q : Option Value → xM → Prop} {x2 x3 x8 : Int32} {x4 x6 : Int64} : X 3 76 [.ref 65, .ref 48, .int x2, .int x3, .long x4, xmk, .long x6, xmk, .int x8, u9] [] (SH L, mi, ml, MR) d Q =
    Q none (SH L, mi, ml, MR) := by
  exact R_return (by decide +kernel) (by decide +kernel)
theorem s225_11g {u7 u8 : Value} {L : Nat} {mi : Nat → Nat → Int32} {ml : Nat → Nat → Int64} {d : Nat} {Q : Option Value → xM → Prop} {x1 x2 x3 x6 : Int32} {x4 : Int64} : X 225 11 [.ref 68, .int x1, .int x2, .int x3, .long x4, xmk, .int x6, u7, u8, xmk] [] (SH L, mi, ml, MR) (d + 1) Q =
    if (x6 < (1 <<< ((mi 68 4) &&& 31))) then (if ((x6 &&& (x3 ^^^ (-1))) = 0) then (X 225 37 [.ref 68, .int x1, .int x2, .int x3, .long x4, xmk, .int x6, .int 0, .int 0, xmk] [] (SH L, mi, ml, MR) (d + 1) Q) else (X 225 11 [.ref 68, .int x1, .int x2, .int x3, .long x4, xmk, .int (x6 + 1), u7, u8, xmk] [] (SH L, mi, ml, MR) (d + 1) Q)) else (Xm 151 [.int x3] (SH L, mi, ml, MR) d (fun v μ' => X 225 164 [.ref 68, .int x1, .int x2, .int x3, .long x4, xmk, .int x6, u7, u8, xmk] (v.toList ++ [.long 12, .long x4, .ref 68]) μ' (d + 1) Q)) := by
  refine (R_pure0 (ins := .iload 6) (len := 2) (loc' := [.ref 68, .int x1, .int x2, .int x3, .long x4, xmk, .int x6, u7, u8, xmk]) (st' := [.int x6]) (by decide +kernel) (fun _ => rfl)).trans ?_
  refine (R_iconst (n := 1) (v := 1) (by decide +kernel) (by decide +kernel)).trans ?_
  refine (R_pure0 (ins := .aload_n 0) (len := 1) (loc' := [.ref 68, .int x1, .int x2, .int x3, .long x4, xmk, .int x6, u7, u8, xmk]) (st' := [.ref 68, .int 1, .int x6]) (by decide +kernel) (fun _ => rfl)).trans ?_
  refine (R_gi (i := 131) (ci := 10) (k := 4) (n := 33) (by decide +kernel) (by decide +kernel) (by decide) rfl).trans ?_
  refine (R_pure0 (ins := .ishl) (len := 1) (loc' := [.ref 68, .int x1, .int x2, .int x3, .long x4, xmk, .int x6, u7, u8, xmk]) (st' := [.int (1 <<< ((mi 68 4) &&& 31)), .int x6]) (by decide +kernel) (fun _ => rfl)).trans ?_
  refine (R_icmp_ge (off := 135) (t := 154) (by decide +kernel) (by decide +kernel)).trans (ite_congr rfl (fun c0 => ?_) (fun c0 => ?_))
  · refine (R_pure0 (ins := .iload 6) (len := 2) (loc' := [.ref 68, .int x1, .int x2, .int x3, .long x4, xmk, .int x6, u7, u8, xmk]) (st' := [.int x6]) (by decide +kernel) (fun _ => rfl)).trans ?_
    refine (R_pure0 (ins := .iload_n 3) (len := 1) (loc' := [.ref 68, .int x1, .int x2, .int x3, .long x4, xmk, .int x6, u7, u8, xmk]) (st' := [.int x3, .int x6]) (by decide +kernel) (fun _ => rfl)).trans ?_
    refine (R_iconst (n := (-1)) (v := (-1)) (by decide +kernel) (by decide +kernel)).trans ?_
    refine (R_pure0 (ins := .ixor) (len := 1) (loc' := [.ref 68, .int x1, .int x2, .int x3, .long x4, xmk, .int x6, u7, u8, xmk]) (st' := [.int (x3 ^^^ (-1)), .int x6]) (by decide +kernel) (fun _ => rfl)).trans ?_
    refine (R_pure0 (ins := .iand) (len := 1) (loc' := [.ref 68, .int x1, .int x2, .int x3, .long x4, xmk, .int x6, u7, u8, xmk]) (st' := [.int (x6 &&& (x3 ^^^ (-1)))]) (by decide +kernel) (fun _ => rfl)).trans ?_
    refine (R_if_ne (off := 120) (t := 148) (by decide +kernel) (by decide +kernel)).trans (ite_congr rfl (fun c1 => ?_) (fun c1 => ?_))
    · refine (R_iconst (n := 0) (v := 0) (by decide +kernel) (by decide +kernel)).trans ?_
      refine (R_pure0 (ins := .istore 7) (len := 2) (loc' := [.ref 68, .int x1, .int x2, .int x3, .long x4, xmk, .int x6, .int 0, u8, xmk]) (st' := []) (by decide +kernel) (fun _ => rfl)).trans ?_
      refine (R_iconst (n := 0) (v := 0) (by decide +kernel) (by decide +kernel)).trans ?_
      refine (R_pure0 (ins := .istore 8) (len := 2) (loc' := [.ref 68, .int x1, .int x2, .int x3, .long x4, xmk, .int x6, .int 0, .int 0, xmk]) (st' := []) (by decide +kernel) (fun _ => rfl)).trans ?_
      rfl
    · refine (R_iinc (k := 6) (n := 1) (x := x6) (v := (x6 + 1)) (loc' := [.ref 68, .int x1, .int x2, .int x3, .long x4, xmk, .int (x6 + 1), u7, u8, xmk]) (by decide +kernel) rfl rfl rfl).trans ?_
      refine (R_goto (off := (-140)) (t := 11) (by decide +kernel) (by decide +kernel)).trans ?_
      rfl
  · refine (R_pure0 (ins := .aload_n 0) (len := 1) (loc' := [.ref 68, .int x1, .int x2, .int x3, .long x4, xmk, .int x6, u7, u8, xmk]) (st' := [.ref 68]) (by decide +kernel) (fun _ => rfl)).trans ?_
    refine (R_pure0 (ins := .lload 4) (len := 2) (loc' := [.ref 68, .int x1, .int x2, .int x3, .long x4, xmk, .int x6, u7, u8, xmk]) (st' := [.long x4, .ref 68]) (by decide +kernel) (fun _ => rfl)).trans ?_
    refine (R_ldc2 (i := 274) (v := 12) (by decide +kernel) (by decide +kernel)).trans ?_
    refine (R_pure0 (ins := .iload_n 3) (len := 1) (loc' := [.ref 68, .int x1, .int x2, .int x3, .long x4, xmk, .int x6, u7, u8, xmk]) (st' := [.int x3, .long 12, .long x4, .ref 68]) (by decide +kernel) (fun _ => rfl)).trans ?_
    refine (R_static (i := 204) (f := 151) (kd := 2) (na := 1) (ml := 3) (As := [.int x3]) (rest := [.long 12, .long x4, .ref 68]) (by decide +kernel) (by decide +kernel) (by decide) (by decide +kernel) rfl rfl (by decide +kernel) (Nat.le_of_ble_eq_true rfl)).trans ?_
    rfl
theorem s225_164g {u7 u8 : Value} {L : Nat} {mi : Nat → Nat → Int32} {ml : Nat → Nat → Int64} {d : Nat} {Q : Option Value → xM → Prop} {x1 x2 x3 x6 y : Int32} {x4 z0 z1 : Int64} : X 225 164 [.ref 68, .int x1, .int x2, .int x3, .long x4, xmk, .int x6, u7, u8, xmk] [.int y, .long z0, .long z1, .ref 68] (SH L, mi, ml, MR) (d + 1) Q =
    Xm 224 [.long z0, .int y] (SH L, mi, ml, MR) d (fun v μ' => X 225 167 [.ref 68, .int x1, .int x2, .int x3, .long x4, xmk, .int x6, u7, u8, xmk] (v.toList ++ [.long z1, .ref 68]) μ' (d + 1) Q) := by
  refine (R_static (i := 270) (f := 224) (kd := 2) (na := 2) (ml := 6) (As := [.long z0, .int y]) (rest := [.long z1, .ref 68]) (by decide +kernel) (by decide +kernel) (by decide) (by decide +kernel) rfl rfl (by decide +kernel) (Nat.le_of_ble_eq_true rfl)).trans ?_
  rfl
theorem s225_167g {u7 u8 : Value} {L : Nat} {mi : Nat → Nat → Int32} {ml : Nat → Nat → Int64} {d : Nat} {Q : Option Value → xM → Prop} {x1 x2 x3 x6 : Int32} {x4 y z0 : Int64} : X 225 167 [.ref 68, .int x1, .int x2, .int x3, .long x4, xmk, .int x6, u7, u8, xmk] [.long y, .long z0, .ref 68] (SH L, mi, ml, MR) (d + 1) Q =
    Xm 211 [.ref 68, .long z0, .long y] (SH L, mi, ml, MR) d (fun v μ' => X 225 170 [.ref 68, .int x1, .int x2, .int x3, .long x4, xmk, .int x6, u7, u8, xmk] (v.toList ++ []) μ' (d + 1) Q) := by
  refine (R_virt (i := 252) (f := 211) (kd := 0) (na := 2) (ml := 11) (ci := 10) (n := 33) (b := 68) (As := [.long z0, .long y]) (rest := []) (by decide +kernel) (by decide +kernel) (by decide) (by decide +kernel) rfl (by decide +kernel) rfl rfl (by decide +kernel) (Nat.le_of_ble_eq_true rfl)).trans ?_
  rfl
theorem s225_170g {u7 u8 : Value} {L : Nat} {mi : Nat → Nat → Int32} {ml : Nat → Nat → Int64} {d : Nat} {Q : Option Value → xM → Prop} {x1 x2 x3 x6 y : Int32} {x4 : Int64} : X 225 170 [.ref 68, .int x1, .int x2, .int x3, .long x4, xmk, .int x6, u7, u8, xmk] [.int y] (SH L, mi, ml, MR) d Q =
    Q (some (.int y)) (SH L, mi, ml, MR) := by
  exact R_ireturn (by decide +kernel) (by decide +kernel)
