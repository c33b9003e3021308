theorem s1 {L : Nat} {mi : Nat → Nat → Int32} {ml : Nat → Nat → Int64} {d : Nat} {Q : Option Value → xM → Prop} {x1 x3 : Int64} : Xm 1 [.ref 65, .long x1, .long x3] (SH L, mi, ml, MR) d Q =
    X 1 9 [.ref 65, .long x1, xmk, .long x3, xmk, .long x1, xmk, .long x3, xmk, .int 0, xmk, xmk] [] (SH L, mi, ml, MR) d Q := by
  rw [Xm_ent (n := 12) (loc := [.ref 65, .long x1, xmk, .long x3, xmk, xmk, xmk, xmk, xmk, xmk, xmk, xmk]) (by decide +kernel) rfl]
  refine (R_pure0 (ins := .lload_n 1) (len := 1) (loc' := [.ref 65, .long x1, xmk, .long x3, xmk, xmk, xmk, xmk, xmk, xmk, xmk, xmk]) (st' := [.long x1]) (by decide +kernel) (fun _ => rfl)).trans ?_
  refine (R_pure0 (ins := .lstore 5) (len := 2) (loc' := [.ref 65, .long x1, xmk, .long x3, xmk, .long x1, xmk, xmk, xmk, xmk, xmk, xmk]) (st' := []) (by decide +kernel) (fun _ => rfl)).trans ?_
  refine (R_pure0 (ins := .lload_n 3) (len := 1) (loc' := [.ref 65, .long x1, xmk, .long x3, xmk, .long x1, xmk, xmk, xmk, xmk, xmk, xmk]) (st' := [.long x3]) (by decide +kernel) (fun _ => rfl)).trans ?_
  refine (R_pure0 (ins := .lstore 7) (len := 2) (loc' := [.ref 65, .long x1, xmk, .long x3, xmk, .long x1, xmk, .long x3, xmk, xmk, xmk, xmk]) (st' := []) (by decide +kernel) (fun _ => rfl)).trans ?_
  refine (R_iconst (n := 0) (v := 0) (by decide +kernel) (by decide +kernel)).trans ?_
  refine (R_pure0 (ins := .istore 9) (len := 2) (loc' := [.ref 65, .long x1, xmk, .long x3, xmk, .long x1, xmk, .long x3, xmk, .int 0, xmk, xmk]) (st' := []) (by decide +kernel) (fun _ => rfl)).trans ?_
  rfl
theorem s1_9 {L : Nat} {mi : Nat → Nat → Int32} {ml : Nat → Nat → Int64} {d : Nat} {Q : Option Value → xM → Prop} {x9 : Int32} {x1 x3 x5 x7 : Int64} (h1 : (x9 < 200) → ((lg_cmp x7 0) = 0) → ¬ ((lg_cmp x5 0) = 0) → ¬ x5 = 0) (h2 : (x9 < 200) → ((lg_cmp x7 0) = 0) → ¬ ((lg_cmp x5 0) = 0) → ¬ x5 = 0) (h3 : (x9 < 200) → ¬ ((lg_cmp x7 0) = 0) → ¬ x7 = 0) (h4 : ¬ (x9 < 200) → ¬ ((lg_cmp x5 0) = 0) → ¬ x5 = 0) (h5 : ¬ (x9 < 200) → ¬ ((lg_cmp x5 0) = 0) → ¬ x5 = 0) : X 1 9 [.ref 65, .long x1, xmk, .long x3, xmk, .long x5, xmk, .long x7, xmk, .int x9, xmk, xmk] [] (SH L, mi, ml, MR) d Q =
    if (x9 < 200) then (if ((lg_cmp x7 0) = 0) then (if ((lg_cmp x5 0) = 0) then (Q none (SH L, mi, (xw (xw ml 65 1 x1) 65 2 x3), MR)) else (Q none (SH L, mi, (xw (xw ml 65 1 (x1 / x5)) 65 2 (x3 / x5)), MR))) else (X 1 9 [.ref 65, .long x1, xmk, .long x3, xmk, .long x7, xmk, .long (x5 - x5 / x7 * x7), xmk, .int (x9 + 1), .long (x5 - x5 / x7 * x7), xmk] [] (SH L, mi, ml, MR) d Q)) else (if ((lg_cmp x5 0) = 0) then (Q none (SH L, mi, (xw (xw ml 65 1 x1) 65 2 x3), MR)) else (Q none (SH L, mi, (xw (xw ml 65 1 (x1 / x5)) 65 2 (x3 / x5)), MR))) := by
  refine (R_pure0 (ins := .iload 9) (len := 2) (loc' := [.ref 65, .long x1, xmk, .long x3, xmk, .long x5, xmk, .long x7, xmk, .int x9, xmk, xmk]) (st' := [.int x9]) (by decide +kernel) (fun _ => rfl)).trans ?_
  refine (R_sipush (n := 200) (v := 200) (by decide +kernel) (by decide +kernel)).trans ?_
  refine (R_icmp_ge (off := 31) (t := 45) (by decide +kernel) (by decide +kernel)).trans (ite_congr rfl (fun c0 => ?_) (fun c0 => ?_))
  · refine (R_pure0 (ins := .lload 7) (len := 2) (loc' := [.ref 65, .long x1, xmk, .long x3, xmk, .long x5, xmk, .long x7, xmk, .int x9, xmk, xmk]) (st' := [.long x7]) (by decide +kernel) (fun _ => rfl)).trans ?_
    refine (R_lconst (n := 0) (v := 0) (by decide +kernel) (by decide +kernel)).trans ?_
    refine (R_pure0 (ins := .lcmp) (len := 1) (loc' := [.ref 65, .long x1, xmk, .long x3, xmk, .long x5, xmk, .long x7, xmk, .int x9, xmk, xmk]) (st' := [.int (lg_cmp x7 0)]) (by decide +kernel) (fun _ => rfl)).trans ?_
    refine (R_if_eq (off := 24) (t := 45) (by decide +kernel) (by decide +kernel)).trans (ite_congr rfl (fun c1 => ?_) (fun c1 => ?_))
    · refine (R_pure0 (ins := .aload_n 0) (len := 1) (loc' := [.ref 65, .long x1, xmk, .long x3, xmk, .long x5, xmk, .long x7, xmk, .int x9, xmk, xmk]) (st' := [.ref 65]) (by decide +kernel) (fun _ => rfl)).trans ?_
      refine (R_pure0 (ins := .lload 5) (len := 2) (loc' := [.ref 65, .long x1, xmk, .long x3, xmk, .long x5, xmk, .long x7, xmk, .int x9, xmk, xmk]) (st' := [.long x5, .ref 65]) (by decide +kernel) (fun _ => rfl)).trans ?_
      refine (R_lconst (n := 0) (v := 0) (by decide +kernel) (by decide +kernel)).trans ?_
      refine (R_pure0 (ins := .lcmp) (len := 1) (loc' := [.ref 65, .long x1, xmk, .long x3, xmk, .long x5, xmk, .long x7, xmk, .int x9, xmk, xmk]) (st' := [.int (lg_cmp x5 0), .ref 65]) (by decide +kernel) (fun _ => rfl)).trans ?_
      refine (R_if_ne (off := 7) (t := 57) (by decide +kernel) (by decide +kernel)).trans (ite_congr rfl (fun c2 => ?_) (fun c2 => ?_))
      · refine (R_pure0 (ins := .lload_n 1) (len := 1) (loc' := [.ref 65, .long x1, xmk, .long x3, xmk, .long x5, xmk, .long x7, xmk, .int x9, xmk, xmk]) (st' := [.long x1, .ref 65]) (by decide +kernel) (fun _ => rfl)).trans ?_
        refine (R_goto (off := 7) (t := 61) (by decide +kernel) (by decide +kernel)).trans ?_
        refine (R_pl (i := 15) (ci := 0) (k := 1) (n := 3) (by decide +kernel) (by decide +kernel) (by decide) rfl).trans ?_
        refine (R_pure0 (ins := .aload_n 0) (len := 1) (loc' := [.ref 65, .long x1, xmk, .long x3, xmk, .long x5, xmk, .long x7, xmk, .int x9, xmk, xmk]) (st' := [.ref 65]) (by decide +kernel) (fun _ => rfl)).trans ?_
        refine (R_pure0 (ins := .lload 5) (len := 2) (loc' := [.ref 65, .long x1, xmk, .long x3, xmk, .long x5, xmk, .long x7, xmk, .int x9, xmk, xmk]) (st' := [.long x5, .ref 65]) (by decide +kernel) (fun _ => rfl)).trans ?_
        refine (R_lconst (n := 0) (v := 0) (by decide +kernel) (by decide +kernel)).trans ?_
        refine (R_pure0 (ins := .lcmp) (len := 1) (loc' := [.ref 65, .long x1, xmk, .long x3, xmk, .long x5, xmk, .long x7, xmk, .int x9, xmk, xmk]) (st' := [.int (lg_cmp x5 0), .ref 65]) (by decide +kernel) (fun _ => rfl)).trans ?_
        refine (R_if_ne (off := 7) (t := 76) (by decide +kernel) (by decide +kernel)).trans ((if_pos c2).trans ?_)
        refine (R_pure0 (ins := .lload_n 3) (len := 1) (loc' := [.ref 65, .long x1, xmk, .long x3, xmk, .long x5, xmk, .long x7, xmk, .int x9, xmk, xmk]) (st' := [.long x3, .ref 65]) (by decide +kernel) (fun _ => rfl)).trans ?_
        refine (R_goto (off := 7) (t := 80) (by decide +kernel) (by decide +kernel)).trans ?_
        refine (R_pl (i := 19) (ci := 0) (k := 2) (n := 3) (by decide +kernel) (by decide +kernel) (by decide) rfl).trans ?_
        exact R_return (by decide +kernel) (by decide +kernel)
      · refine (R_pure0 (ins := .lload_n 1) (len := 1) (loc' := [.ref 65, .long x1, xmk, .long x3, xmk, .long x5, xmk, .long x7, xmk, .int x9, xmk, xmk]) (st' := [.long x1, .ref 65]) (by decide +kernel) (fun _ => rfl)).trans ?_
        refine (R_pure0 (ins := .lload 5) (len := 2) (loc' := [.ref 65, .long x1, xmk, .long x3, xmk, .long x5, xmk, .long x7, xmk, .int x9, xmk, xmk]) (st' := [.long x5, .long x1, .ref 65]) (by decide +kernel) (fun _ => rfl)).trans ?_
        refine (R_ldiv (x := x1) (y := x5) (by decide +kernel) (h1 c0 c1 c2)).trans ?_
        refine (R_pl (i := 15) (ci := 0) (k := 1) (n := 3) (by decide +kernel) (by decide +kernel) (by decide) rfl).trans ?_
        refine (R_pure0 (ins := .aload_n 0) (len := 1) (loc' := [.ref 65, .long x1, xmk, .long x3, xmk, .long x5, xmk, .long x7, xmk, .int x9, xmk, xmk]) (st' := [.ref 65]) (by decide +kernel) (fun _ => rfl)).trans ?_
        refine (R_pure0 (ins := .lload 5) (len := 2) (loc' := [.ref 65, .long x1, xmk, .long x3, xmk, .long x5, xmk, .long x7, xmk, .int x9, xmk, xmk]) (st' := [.long x5, .ref 65]) (by decide +kernel) (fun _ => rfl)).trans ?_
        refine (R_lconst (n := 0) (v := 0) (by decide +kernel) (by decide +kernel)).trans ?_
        refine (R_pure0 (ins := .lcmp) (len := 1) (loc' := [.ref 65, .long x1, xmk, .long x3, xmk, .long x5, xmk, .long x7, xmk, .int x9, xmk, xmk]) (st' := [.int (lg_cmp x5 0), .ref 65]) (by decide +kernel) (fun _ => rfl)).trans ?_
        refine (R_if_ne (off := 7) (t := 76) (by decide +kernel) (by decide +kernel)).trans ((if_neg c2).trans ?_)
        refine (R_pure0 (ins := .lload_n 3) (len := 1) (loc' := [.ref 65, .long x1, xmk, .long x3, xmk, .long x5, xmk, .long x7, xmk, .int x9, xmk, xmk]) (st' := [.long x3, .ref 65]) (by decide +kernel) (fun _ => rfl)).trans ?_
        refine (R_pure0 (ins := .lload 5) (len := 2) (loc' := [.ref 65, .long x1, xmk, .long x3, xmk, .long x5, xmk, .long x7, xmk, .int x9, xmk, xmk]) (st' := [.long x5, .long x3, .ref 65]) (by decide +kernel) (fun _ => rfl)).trans ?_
        refine (R_ldiv (x := x3) (y := x5) (by decide +kernel) (h2 c0 c1 c2)).trans ?_
        refine (R_pl (i := 19) (ci := 0) (k := 2) (n := 3) (by decide +kernel) (by decide +kernel) (by decide) rfl).trans ?_
        exact R_return (by decide +kernel) (by decide +kernel)
    · refine (R_pure0 (ins := .lload 5) (len := 2) (loc' := [.ref 65, .long x1, xmk, .long x3, xmk, .long x5, xmk, .long x7, xmk, .int x9, xmk, xmk]) (st' := [.long x5]) (by decide +kernel) (fun _ => rfl)).trans ?_
      refine (R_pure0 (ins := .lload 7) (len := 2) (loc' := [.ref 65, .long x1, xmk, .long x3, xmk, .long x5, xmk, .long x7, xmk, .int x9, xmk, xmk]) (st' := [.long x7, .long x5]) (by decide +kernel) (fun _ => rfl)).trans ?_
      refine (R_lrem (x := x5) (y := x7) (by decide +kernel) (h3 c0 c1)).trans ?_
      refine (R_pure0 (ins := .lstore 10) (len := 2) (loc' := [.ref 65, .long x1, xmk, .long x3, xmk, .long x5, xmk, .long x7, xmk, .int x9, .long (x5 - x5 / x7 * x7), xmk]) (st' := []) (by decide +kernel) (fun _ => rfl)).trans ?_
      refine (R_pure0 (ins := .lload 7) (len := 2) (loc' := [.ref 65, .long x1, xmk, .long x3, xmk, .long x5, xmk, .long x7, xmk, .int x9, .long (x5 - x5 / x7 * x7), xmk]) (st' := [.long x7]) (by decide +kernel) (fun _ => rfl)).trans ?_
      refine (R_pure0 (ins := .lstore 5) (len := 2) (loc' := [.ref 65, .long x1, xmk, .long x3, xmk, .long x7, xmk, .long x7, xmk, .int x9, .long (x5 - x5 / x7 * x7), xmk]) (st' := []) (by decide +kernel) (fun _ => rfl)).trans ?_
      refine (R_pure0 (ins := .lload 10) (len := 2) (loc' := [.ref 65, .long x1, xmk, .long x3, xmk, .long x7, xmk, .long x7, xmk, .int x9, .long (x5 - x5 / x7 * x7), xmk]) (st' := [.long (x5 - x5 / x7 * x7)]) (by decide +kernel) (fun _ => rfl)).trans ?_
      refine (R_pure0 (ins := .lstore 7) (len := 2) (loc' := [.ref 65, .long x1, xmk, .long x3, xmk, .long x7, xmk, .long (x5 - x5 / x7 * x7), xmk, .int x9, .long (x5 - x5 / x7 * x7), xmk]) (st' := []) (by decide +kernel) (fun _ => rfl)).trans ?_
      refine (R_iinc (k := 9) (n := 1) (x := x9) (v := (x9 + 1)) (loc' := [.ref 65, .long x1, xmk, .long x3, xmk, .long x7, xmk, .long (x5 - x5 / x7 * x7), xmk, .int (x9 + 1), .long (x5 - x5 / x7 * x7), xmk]) (by decide +kernel) rfl rfl rfl).trans ?_
      refine (R_goto (off := (-33)) (t := 9) (by decide +kernel) (by decide +kernel)).trans ?_
      rfl
  · refine (R_pure0 (ins := .aload_n 0) (len := 1) (loc' := [.ref 65, .long x1, xmk, .long x3, xmk, .long x5, xmk, .long x7, xmk, .int x9, xmk, xmk]) (st' := [.ref 65]) (by decide +kernel) (fun _ => rfl)).trans ?_
    refine (R_pure0 (ins := .lload 5) (len := 2) (loc' := [.ref 65, .long x1, xmk, .long x3, xmk, .long x5, xmk, .long x7, xmk, .int x9, xmk, xmk]) (st' := [.long x5, .ref 65]) (by decide +kernel) (fun _ => rfl)).trans ?_
    refine (R_lconst (n := 0) (v := 0) (by decide +kernel) (by decide +kernel)).trans ?_
    refine (R_pure0 (ins := .lcmp) (len := 1) (loc' := [.ref 65, .long x1, xmk, .long x3, xmk, .long x5, xmk, .long x7, xmk, .int x9, xmk, xmk]) (st' := [.int (lg_cmp x5 0), .ref 65]) (by decide +kernel) (fun _ => rfl)).trans ?_
    refine (R_if_ne (off := 7) (t := 57) (by decide +kernel) (by decide +kernel)).trans (ite_congr rfl (fun c3 => ?_) (fun c3 => ?_))
    · refine (R_pure0 (ins := .lload_n 1) (len := 1) (loc' := [.ref 65, .long x1, xmk, .long x3, xmk, .long x5, xmk, .long x7, xmk, .int x9, xmk, xmk]) (st' := [.long x1, .ref 65]) (by decide +kernel) (fun _ => rfl)).trans ?_
      refine (R_goto (off := 7) (t := 61) (by decide +kernel) (by decide +kernel)).trans ?_
      refine (R_pl (i := 15) (ci := 0) (k := 1) (n := 3) (by decide +kernel) (by decide +kernel) (by decide) rfl).trans ?_
      refine (R_pure0 (ins := .aload_n 0) (len := 1) (loc' := [.ref 65, .long x1, xmk, .long x3, xmk, .long x5, xmk, .long x7, xmk, .int x9, xmk, xmk]) (st' := [.ref 65]) (by decide +kernel) (fun _ => rfl)).trans ?_
      refine (R_pure0 (ins := .lload 5) (len := 2) (loc' := [.ref 65, .long x1, xmk, .long x3, xmk, .long x5, xmk, .long x7, xmk, .int x9, xmk, xmk]) (st' := [.long x5, .ref 65]) (by decide +kernel) (fun _ => rfl)).trans ?_
      refine (R_lconst (n := 0) (v := 0) (by decide +kernel) (by decide +kernel)).trans ?_
      refine (R_pure0 (ins := .lcmp) (len := 1) (loc' := [.ref 65, .long x1, xmk, .long x3, xmk, .long x5, xmk, .long x7, xmk, .int x9, xmk, xmk]) (st' := [.int (lg_cmp x5 0), .ref 65]) (by decide +kernel) (fun _ => rfl)).trans ?_
      refine (R_if_ne (off := 7) (t := 76) (by decide +kernel) (by decide +kernel)).trans ((if_pos c3).trans ?_)
      refine (R_pure0 (ins := .lload_n 3) (len := 1) (loc' := [.ref 65, .long x1, xmk, .long x3, xmk, .long x5, xmk, .long x7, xmk, .int x9, xmk, xmk]) (st' := [.long x3, .ref 65]) (by decide +kernel) (fun _ => rfl)).trans ?_
      refine (R_goto (off := 7) (t := 80) (by decide +kernel) (by decide +kernel)).trans ?_
      refine (R_pl (i := 19) (ci := 0) (k := 2) (n := 3) (by decide +kernel) (by decide +kernel) (by decide) rfl).trans ?_
      exact R_return (by decide +kernel) (by decide +kernel)
    · refine (R_pure0 (ins := .lload_n 1) (len := 1) (loc' := [.ref 65, .long x1, xmk, .long x3, xmk, .long x5, xmk, .long x7, xmk, .int x9, xmk, xmk]) (st' := [.long x1, .ref 65]) (by decide +kernel) (fun _ => rfl)).trans ?_
      refine (R_pure0 (ins := .lload 5) (len := 2) (loc' := [.ref 65, .long x1, xmk, .long x3, xmk, .long x5, xmk, .long x7, xmk, .int x9, xmk, xmk]) (st' := [.long x5, .long x1, .ref 65]) (by decide +kernel) (fun _ => rfl)).trans ?_
      refine (R_ldiv (x := x1) (y := x5) (by decide +kernel) (h4 c0 c3)).trans ?_
      refine (R_pl (i := 15) (ci := 0) (k := 1) (n := 3) (by decide +kernel) (by decide +kernel) (by decide) rfl).trans ?_
      refine (R_pure0 (ins := .aload_n 0) (len := 1) (loc' := [.ref 65, .long x1, xmk, .long x3, xmk, .long x5, xmk, .long x7, xmk, .int x9, xmk, xmk]) (st' := [.ref 65]) (by decide +kernel) (fun _ => rfl)).trans ?_
      refine (R_pure0 (ins := .lload 5) (len := 2) (loc' := [.ref 65, .long x1, xmk, .long x3, xmk, .long x5, xmk, .long x7, xmk, .int x9, xmk, xmk]) (st' := [.long x5, .ref 65]) (by decide +kernel) (fun _ => rfl)).trans ?_
      refine (R_lconst (n := 0) (v := 0) (by decide +kernel) (by decide +kernel)).trans ?_
      refine (R_pure0 (ins := .lcmp) (len := 1) (loc' := [.ref 65, .long x1, xmk, .long x3, xmk, .long x5, xmk, .long x7, xmk, .int x9, xmk, xmk]) (st' := [.int (lg_cmp x5 0), .ref 65]) (by decide +kernel) (fun _ => rfl)).trans ?_
      refine (R_if_ne (off := 7) (t := 76) (by decide +kernel) (by decide +kernel)).trans ((if_neg c3).trans ?_)
      refine (R_pure0 (ins := .lload_n 3) (len := 1) (loc' := [.ref 65, .long x1, xmk, .long x3, xmk, .long x5, xmk, .long x7, xmk, .int x9, xmk, xmk]) (st' := [.long x3, .ref 65]) (by decide +kernel) (fun _ => rfl)).trans ?_
      refine (R_pure0 (ins := .lload 5) (len := 2) (loc' := [.ref 65, .long x1, xmk, .long x3, xmk, .long x5, xmk, .long x7, xmk, .int x9, xmk, xmk]) (st' := [.long x5, .long x3, .ref 65]) (by decide +kernel) (fun _ => rfl)).trans ?_
      refine (R_ldiv (x := x3) (y := x5) (by decide +kernel) (h5 c0 c3)).trans ?_
      refine (R_pl (i := 19) (ci := 0) (k := 2) (n := 3) (by decide +kernel) (by decide +kernel) (by decide) rfl).trans ?_
      exact R_return (by decide +kernel) (by decide +kernel)
theorem s1_9v2 {L : Nat} {mi : Nat → Nat → Int32} {ml : Nat → Nat → Int64} {d : Nat} {Q : Option Value → xM → Prop} {x9 : Int32} {x1 x10 x3 x5 x7 : Int64} (h1 : (x9 < 200) → ((lg_cmp x7 0) = 0) → ¬ ((lg_cmp x5 0) = 0) → ¬ x5 = 0) (h2 : (x9 < 200) → ((lg_cmp x7 0) = 0) → ¬ ((lg_cmp x5 0) = 0) → ¬ x5 = 0) (h3 : (x9 < 200) → ¬ ((lg_cmp x7 0) = 0) → ¬ x7 = 0) (h4 : ¬ (x9 < 200) → ¬ ((lg_cmp x5 0) = 0) → ¬ x5 = 0) (h5 : ¬ (x9 < 200) → ¬ ((lg_cmp x5 0) = 0) → ¬ x5 = 0) : X 1 9 [.ref 65, .long x1, xmk, .long x3, xmk, .long x5, xmk, .long x7, xmk, .int x9, .long x10, xmk] [] (SH L, mi, ml, MR) d Q =
    if (x9 < 200) then (if ((lg_cmp x7 0) = 0) then (if ((lg_cmp x5 0) = 0) then (Q none (SH L, mi, (xw (xw ml 65 1 x1) 65 2 x3), MR)) else (Q none (SH L, mi, (xw (xw ml 65 1 (x1 / x5)) 65 2 (x3 / x5)), MR))) else (X 1 9 [.ref 65, .long x1, xmk, .long x3, xmk, .long x7, xmk, .long (x5 - x5 / x7 * x7), xmk, .int (x9 + 1), .long (x5 - x5 / x7 * x7), xmk] [] (SH L, mi, ml, MR) d Q)) else (if ((lg_cmp x5 0) = 0) then (Q none (SH L, mi, (xw (xw ml 65 1 x1) 65 2 x3), MR)) else (Q none (SH L, mi, (xw (xw ml 65 1 (x1 / x5)) 65 2 (x3 / x5)), MR))) := by
  refine (R_pure0 (ins := .iload 9) (len := 2) (loc' := [.ref 65, .long x1, xmk, .long x3, xmk, .long x5, xmk, .long x7, xmk, .int x9, .long x10, xmk]) (st' := [.int x9]) (by decide +kernel) (fun _ => rfl)).trans ?_
  refine (R_sipush (n := 200) (v := 200) (by decide +kernel) (by decide +kernel)).trans ?_
  refine (R_icmp_ge (off := 31) (t := 45) (by decide +kernel) (by decide +kernel)).trans (ite_congr rfl (fun c0 => ?_) (fun c0 => ?_))
  · refine (R_pure0 (ins := .lload 7) (len := 2) (loc' := [.ref 65, .long x1, xmk, .long x3, xmk, .long x5, xmk, .long x7, xmk, .int x9, .long x10, xmk]) (st' := [.long x7]) (by decide +kernel) (fun _ => rfl)).trans ?_
    refine (R_lconst (n := 0) (v := 0) (by decide +kernel) (by decide +kernel)).trans ?_
    refine (R_pure0 (ins := .lcmp) (len := 1) (loc' := [.ref 65, .long x1, xmk, .long x3, xmk, .long x5, xmk, .long x7, xmk, .int x9, .long x10, xmk]) (st' := [.int (lg_cmp x7 0)]) (by decide +kernel) (fun _ => rfl)).trans ?_
    refine (R_if_eq (off := 24) (t := 45) (by decide +kernel) (by decide +kernel)).trans (ite_congr rfl (fun c1 => ?_) (fun c1 => ?_))
    · refine (R_pure0 (ins := .aload_n 0) (len := 1) (loc' := [.ref 65, .long x1, xmk, .long x3, xmk, .long x5, xmk, .long x7, xmk, .int x9, .long x10, xmk]) (st' := [.ref 65]) (by decide +kernel) (fun _ => rfl)).trans ?_
      refine (R_pure0 (ins := .lload 5) (len := 2) (loc' := [.ref 65, .long x1, xmk, .long x3, xmk, .long x5, xmk, .long x7, xmk, .int x9, .long x10, xmk]) (st' := [.long x5, .ref 65]) (by decide +kernel) (fun _ => rfl)).trans ?_
      refine (R_lconst (n := 0) (v := 0) (by decide +kernel) (by decide +kernel)).trans ?_
      refine (R_pure0 (ins := .lcmp) (len := 1) (loc' := [.ref 65, .long x1, xmk, .long x3, xmk, .long x5, xmk, .long x7, xmk, .int x9, .long x10, xmk]) (st' := [.int (lg_cmp x5 0), .ref 65]) (by decide +kernel) (fun _ => rfl)).trans ?_
      refine (R_if_ne (off := 7) (t := 57) (by decide +kernel) (by decide +kernel)).trans (ite_congr rfl (fun c2 => ?_) (fun c2 => ?_))
      · refine (R_pure0 (ins := .lload_n 1) (len := 1) (loc' := [.ref 65, .long x1, xmk, .long x3, xmk, .long x5, xmk, .long x7, xmk, .int x9, .long x10, xmk]) (st' := [.long x1, .ref 65]) (by decide +kernel) (fun _ => rfl)).trans ?_
        refine (R_goto (off := 7) (t := 61) (by decide +kernel) (by decide +kernel)).trans ?_
        refine (R_pl (i := 15) (ci := 0) (k := 1) (n := 3) (by decide +kernel) (by decide +kernel) (by decide) rfl).trans ?_
        refine (R_pure0 (ins := .aload_n 0) (len := 1) (loc' := [.ref 65, .long x1, xmk, .long x3, xmk, .long x5, xmk, .long x7, xmk, .int x9, .long x10, xmk]) (st' := [.ref 65]) (by decide +kernel) (fun _ => rfl)).trans ?_
        refine (R_pure0 (ins := .lload 5) (len := 2) (loc' := [.ref 65, .long x1, xmk, .long x3, xmk, .long x5, xmk, .long x7, xmk, .int x9, .long x10, xmk]) (st' := [.long x5, .ref 65]) (by decide +kernel) (fun _ => rfl)).trans ?_
        refine (R_lconst (n := 0) (v := 0) (by decide +kernel) (by decide +kernel)).trans ?_
        refine (R_pure0 (ins := .lcmp) (len := 1) (loc' := [.ref 65, .long x1, xmk, .long x3, xmk, .long x5, xmk, .long x7, xmk, .int x9, .long x10, xmk]) (st' := [.int (lg_cmp x5 0), .ref 65]) (by decide +kernel) (fun _ => rfl)).trans ?_
        refine (R_if_ne (off := 7) (t := 76) (by decide +kernel) (by decide +kernel)).trans ((if_pos c2).trans ?_)
        refine (R_pure0 (ins := .lload_n 3) (len := 1) (loc' := [.ref 65, .long x1, xmk, .long x3, xmk, .long x5, xmk, .long x7, xmk, .int x9, .long x10, xmk]) (st' := [.long x3, .ref 65]) (by decide +kernel) (fun _ => rfl)).trans ?_
        refine (R_goto (off := 7) (t := 80) (by decide +kernel) (by decide +kernel)).trans ?_
        refine (R_pl (i := 19) (ci := 0) (k := 2) (n := 3) (by decide +kernel) (by decide +kernel) (by decide) rfl).trans ?_
        exact R_return (by decide +kernel) (by decide +kernel)
      · refine (R_pure0 (ins := .lload_n 1) (len := 1) (loc' := [.ref 65, .long x1, xmk, .long x3, xmk, .long x5, xmk, .long x7, xmk, .int x9, .long x10, xmk]) (st' := [.long x1, .ref 65]) (by decide +kernel) (fun _ => rfl)).trans ?_
        refine (R_pure0 (ins := .lload 5) (len := 2) (loc' := [.ref 65, .long x1, xmk, .long x3, xmk, .long x5, xmk, .long x7, xmk, .int x9, .long x10, xmk]) (st' := [.long x5, .long x1, .ref 65]) (by decide +kernel) (fun _ => rfl)).trans ?_
        refine (R_ldiv (x := x1) (y := x5) (by decide +kernel) (h1 c0 c1 c2)).trans ?_
        refine (R_pl (i := 15) (ci := 0) (k := 1) (n := 3) (by decide +kernel) (by decide +kernel) (by decide) rfl).trans ?_
        refine (R_pure0 (ins := .aload_n 0) (len := 1) (loc' := [.ref 65, .long x1, xmk, .long x3, xmk, .long x5, xmk, .long x7, xmk, .int x9, .long x10, xmk]) (st' := [.ref 65]) (by decide +kernel) (fun _ => rfl)).trans ?_
        refine (R_pure0 (ins := .lload 5) (len := 2) (loc' := [.ref 65, .long x1, xmk, .long x3, xmk, .long x5, xmk, .long x7, xmk, .int x9, .long x10, xmk]) (st' := [.long x5, .ref 65]) (by decide +kernel) (fun _ => rfl)).trans ?_
        refine (R_lconst (n := 0) (v := 0) (by decide +kernel) (by decide +kernel)).trans ?_
        refine (R_pure0 (ins := .lcmp) (len := 1) (loc' := [.ref 65, .long x1, xmk, .long x3, xmk, .long x5, xmk, .long x7, xmk, .int x9, .long x10, xmk]) (st' := [.int (lg_cmp x5 0), .ref 65]) (by decide +kernel) (fun _ => rfl)).trans ?_
        refine (R_if_ne (off := 7) (t := 76) (by decide +kernel) (by decide +kernel)).trans ((if_neg c2).trans ?_)
        refine (R_pure0 (ins := .lload_n 3) (len := 1) (loc' := [.ref 65, .long x1, xmk, .long x3, xmk, .long x5, xmk, .long x7, xmk, .int x9, .long x10, xmk]) (st' := [.long x3, .ref 65]) (by decide +kernel) (fun _ => rfl)).trans ?_
        refine (R_pure0 (ins := .lload 5) (len := 2) (loc' := [.ref 65, .long x1, xmk, .long x3, xmk, .long x5, xmk, .long x7, xmk, .int x9, .long x10, xmk]) (st' := [.long x5, .long x3, .ref 65]) (by decide +kernel) (fun _ => rfl)).trans ?_
        refine (R_ldiv (x := x3) (y := x5) (by decide +kernel) (h2 c0 c1 c2)).trans ?_
        refine (R_pl (i := 19) (ci := 0) (k := 2) (n := 3) (by decide +kernel) (by decide +kernel) (by decide) rfl).trans ?_
        exact R_return (by decide +kernel) (by decide +kernel)
    · refine (R_pure0 (ins := .lload 5) (len := 2) (loc' := [.ref 65, .long x1, xmk, .long x3, xmk, .long x5, xmk, .long x7, xmk, .int x9, .long x10, xmk]) (st' := [.long x5]) (by decide +kernel) (fun _ => rfl)).trans ?_
      refine (R_pure0 (ins := .lload 7) (len := 2) (loc' := [.ref 65, .long x1, xmk, .long x3, xmk, .long x5, xmk, .long x7, xmk, .int x9, .long x10, xmk]) (st' := [.long x7, .long x5]) (by decide +kernel) (fun _ => rfl)).trans ?_
      refine (R_lrem (x := x5) (y := x7) (by decide +kernel) (h3 c0 c1)).trans ?_
      refine (R_pure0 (ins := .lstore 10) (len := 2) (loc' := [.ref 65, .long x1, xmk, .long x3, xmk, .long x5, xmk, .long x7, xmk, .int x9, .long (x5 - x5 / x7 * x7), xmk]) (st' := []) (by decide +kernel) (fun _ => rfl)).trans ?_
      refine (R_pure0 (ins := .lload 7) (len := 2) (loc' := [.ref 65, .long x1, xmk, .long x3, xmk, .long x5, xmk, .long x7, xmk, .int x9, .long (x5 - x5 / x7 * x7), xmk]) (st' := [.long x7]) (by decide +kernel) (fun _ => rfl)).trans ?_
      refine (R_pure0 (ins := .lstore 5) (len := 2) (loc' := [.ref 65, .long x1, xmk, .long x3, xmk, .long x7, xmk, .long x7, xmk, .int x9, .long (x5 - x5 / x7 * x7), xmk]) (st' := []) (by decide +kernel) (fun _ => rfl)).trans ?_
      refine (R_pure0 (ins := .lload 10) (len := 2) (loc' := [.ref 65, .long x1, xmk, .long x3, xmk, .long x7, xmk, .long x7, xmk, .int x9, .long (x5 - x5 / x7 * x7), xmk]) (st' := [.long (x5 - x5 / x7 * x7)]) (by decide +kernel) (fun _ => rfl)).trans ?_
      refine (R_pure0 (ins := .lstore 7) (len := 2) (loc' := [.ref 65, .long x1, xmk, .long x3, xmk, .long x7, xmk, .long (x5 - x5 / x7 * x7), xmk, .int x9, .long (x5 - x5 / x7 * x7), xmk]) (st' := []) (by decide +kernel) (fun _ => rfl)).trans ?_
      refine (R_iinc (k := 9) (n := 1) (x := x9) (v := (x9 + 1)) (loc' := [.ref 65, .long x1, xmk, .long x3, xmk, .long x7, xmk, .long (x5 - x5 / x7 * x7), xmk, .int (x9 + 1), .long (x5 - x5 / x7 * x7), xmk]) (by decide +kernel) rfl rfl rfl).trans ?_
      refine (R_goto (off := (-33)) (t := 9) (by decide +kernel) (by decide +kernel)).trans ?_
      rfl
  · refine (R_pure0 (ins := .aload_n 0) (len := 1) (loc' := [.ref 65, .long x1, xmk, .long x3, xmk, .long x5, xmk, .long x7, xmk, .int x9, .long x10, xmk]) (st' := [.ref 65]) (by decide +kernel) (fun _ => rfl)).trans ?_
    refine (R_pure0 (ins := .lload 5) (len := 2) (loc' := [.ref 65, .long x1, xmk, .long x3, xmk, .long x5, xmk, .long x7, xmk, .int x9, .long x10, xmk]) (st' := [.long x5, .ref 65]) (by decide +kernel) (fun _ => rfl)).trans ?_
    refine (R_lconst (n := 0) (v := 0) (by decide +kernel) (by decide +kernel)).trans ?_
    refine (R_pure0 (ins := .lcmp) (len := 1) (loc' := [.ref 65, .long x1, xmk, .long x3, xmk, .long x5, xmk, .long x7, xmk, .int x9, .long x10, xmk]) (st' := [.int (lg_cmp x5 0), .ref 65]) (by decide +kernel) (fun _ => rfl)).trans ?_
    refine (R_if_ne (off := 7) (t := 57) (by decide +kernel) (by decide +kernel)).trans (ite_congr rfl (fun c3 => ?_) (fun c3 => ?_))
    · refine (R_pure0 (ins := .lload_n 1) (len := 1) (loc' := [.ref 65, .long x1, xmk, .long x3, xmk, .long x5, xmk, .long x7, xmk, .int x9, .long x10, xmk]) (st' := [.long x1, .ref 65]) (by decide +kernel) (fun _ => rfl)).trans ?_
      refine (R_goto (off := 7) (t := 61) (by decide +kernel) (by decide +kernel)).trans ?_
      refine (R_pl (i := 15) (ci := 0) (k := 1) (n := 3) (by decide +kernel) (by decide +kernel) (by decide) rfl).trans ?_
      refine (R_pure0 (ins := .aload_n 0) (len := 1) (loc' := [.ref 65, .long x1, xmk, .long x3, xmk, .long x5, xmk, .long x7, xmk, .int x9, .long x10, xmk]) (st' := [.ref 65]) (by decide +kernel) (fun _ => rfl)).trans ?_
      refine (R_pure0 (ins := .lload 5) (len := 2) (loc' := [.ref 65, .long x1, xmk, .long x3, xmk, .long x5, xmk, .long x7, xmk, .int x9, .long x10, xmk]) (st' := [.long x5, .ref 65]) (by decide +kernel) (fun _ => rfl)).trans ?_
      refine (R_lconst (n := 0) (v := 0) (by decide +kernel) (by decide +kernel)).trans ?_
      refine (R_pure0 (ins := .lcmp) (len := 1) (loc' := [.ref 65, .long x1, xmk, .long x3, xmk, .long x5, xmk, .long x7, xmk, .int x9, .long x10, xmk]) (st' := [.int (lg_cmp x5 0), .ref 65]) (by decide +kernel) (fun _ => rfl)).trans ?_
      refine (R_if_ne (off := 7) (t := 76) (by decide +kernel) (by decide +kernel)).trans ((if_pos c3).trans ?_)
      refine (R_pure0 (ins := .lload_n 3) (len := 1) (loc' := [.ref 65, .long x1, xmk, .long x3, xmk, .long x5, xmk, .long x7, xmk, .int x9, .long x10, xmk]) (st' := [.long x3, .ref 65]) (by decide +kernel) (fun _ => rfl)).trans ?_
      refine (R_goto (off := 7) (t := 80) (by decide +kernel) (by decide +kernel)).trans ?_
      refine (R_pl (i := 19) (ci := 0) (k := 2) (n := 3) (by decide +kernel) (by decide +kernel) (by decide) rfl).trans ?_
      exact R_return (by decide +kernel) (by decide +kernel)
    · refine (R_pure0 (ins := .lload_n 1) (len := 1) (loc' := [.ref 65, .long x1, xmk, .long x3, xmk, .long x5, xmk, .long x7, xmk, .int x9, .long x10, xmk]) (st' := [.long x1, .ref 65]) (by decide +kernel) (fun _ => rfl)).trans ?_
      refine (R_pure0 (ins := .lload 5) (len := 2) (loc' := [.ref 65, .long x1, xmk, .long x3, xmk, .long x5, xmk, .long x7, xmk, .int x9, .long x10, xmk]) (st' := [.long x5, .long x1, .ref 65]) (by decide +kernel) (fun _ => rfl)).trans ?_
      refine (R_ldiv (x := x1) (y := x5) (by decide +kernel) (h4 c0 c3)).trans ?_
      refine (R_pl (i := 15) (ci := 0) (k := 1) (n := 3) (by decide +kernel) (by decide +kernel) (by decide) rfl).trans ?_
      refine (R_pure0 (ins := .aload_n 0) (len := 1) (loc' := [.ref 65, .long x1, xmk, .long x3, xmk, .long x5, xmk, .long x7, xmk, .int x9, .long x10, xmk]) (st' := [.ref 65]) (by decide +kernel) (fun _ => rfl)).trans ?_
      refine (R_pure0 (ins := .lload 5) (len := 2) (loc' := [.ref 65, .long x1, xmk, .long x3, xmk, .long x5, xmk, .long x7, xmk, .int x9, .long x10, xmk]) (st' := [.long x5, .ref 65]) (by decide +kernel) (fun _ => rfl)).trans ?_
      refine (R_lconst (n := 0) (v := 0) (by decide +kernel) (by decide +kernel)).trans ?_
      refine (R_pure0 (ins := .lcmp) (len := 1) (loc' := [.ref 65, .long x1, xmk, .long x3, xmk, .long x5, xmk, .long x7, xmk, .int x9, .long x10, xmk]) (st' := [.int (lg_cmp x5 0), .ref 65]) (by decide +kernel) (fun _ => rfl)).trans ?_
      refine (R_if_ne (off := 7) (t := 76) (by decide +kernel) (by decide +kernel)).trans ((if_neg c3).trans ?_)
      refine (R_pure0 (ins := .lload_n 3) (len := 1) (loc' := [.ref 65, .long x1, xmk, .long x3, xmk, .long x5, xmk, .long x7, xmk, .int x9, .long x10, xmk]) (st' := [.long x3, .ref 65]) (by decide +kernel) (fun _ => rfl)).trans ?_
      refine (R_pure0 (ins := .lload 5) (len := 2) (loc' := [.ref 65, .long x1, xmk, .long x3, xmk, .long x5, xmk, .long x7, xmk, .int x9, .long x10, xmk]) (st' := [.long x5, .long x3, .ref 65]) (by decide +kernel) (fun _ => rfl)).trans ?_
      refine (R_ldiv (x := x3) (y := x5) (by decide +kernel) (h5 c0 c3)).trans ?_
      refine (R_pl (i := 19) (ci := 0) (k := 2) (n := 3) (by decide +kernel) (by decide +kernel) (by decide) rfl).trans ?_
      exact R_return (by decide +kernel) (by decide +kernel)
theorem s2 {L : Nat} {mi : Nat → Nat → Int32} {ml : Nat → Nat → Int64} {d : Nat} {Q : Option Value → xM → Prop} {x2 x3 : Int32} : Xm 2 [.ref 65, .ref 48, .int x2, .int x3] (SH L, mi, ml, MR) (d + 1) Q =
    Xm 41 [.ref 48, .int 0] (SH L, mi, ml, MR) d (fun v μ' => X 2 5 [.ref 65, .ref 48, .int x2, .int x3, xmk, xmk, xmk, xmk] (v.toList ++ []) μ' (d + 1) Q) := by
  rw [Xm_ent (n := 8) (loc := [.ref 65, .ref 48, .int x2, .int x3, xmk, xmk, xmk, xmk]) (by decide +kernel) rfl]
  refine (R_pure0 (ins := .aload_n 1) (len := 1) (loc' := [.ref 65, .ref 48, .int x2, .int x3, xmk, xmk, xmk, xmk]) (st' := [.ref 48]) (by decide +kernel) (fun _ => rfl)).trans ?_
  refine (R_iconst (n := 0) (v := 0) (by decide +kernel) (by decide +kernel)).trans ?_
  refine (R_virt (i := 22) (f := 41) (kd := 0) (na := 1) (ml := 4) (ci := 3) (n := 3) (b := 48) (As := [.int 0]) (rest := []) (by decide +kernel) (by decide +kernel) (by decide) (by decide +kernel) rfl (by decide +kernel) rfl rfl (by decide +kernel) (Nat.le_of_ble_eq_true rfl)).trans ?_
  rfl
theorem s2_5 {L : Nat} {mi : Nat → Nat → Int32} {ml : Nat → Nat → Int64} {d : Nat} {Q : Option Value → xM → Prop} {x2 x3 y : Int32} : X 2 5 [.ref 65, .ref 48, .int x2, .int x3, xmk, xmk, xmk, xmk] [.int y] (SH L, mi, ml, MR) d Q =
    X 2 10 [.ref 65, .ref 48, .int x2, .int x3, .int y, .int 0, xmk, xmk] [] (SH L, mi, ml, MR) d Q := by
  refine (R_pure0 (ins := .istore 4) (len := 2) (loc' := [.ref 65, .ref 48, .int x2, .int x3, .int y, xmk, xmk, xmk]) (st' := []) (by decide +kernel) (fun _ => rfl)).trans ?_
  refine (R_iconst (n := 0) (v := 0) (by decide +kernel) (by decide +kernel)).trans ?_
  refine (R_pure0 (ins := .istore 5) (len := 2) (loc' := [.ref 65, .ref 48, .int x2, .int x3, .int y, .int 0, xmk, xmk]) (st' := []) (by decide +kernel) (fun _ => rfl)).trans ?_
  rfl
theorem s2_10 {L : Nat} {mi : Nat → Nat → Int32} {ml : Nat → Nat → Int64} {d : Nat} {Q : Option Value → xM → Prop} {x2 x3 x4 x5 : Int32} (h1 : (x5 < 7) → (x5 = 0) → xin x5 7 = true) (h2 : (x5 < 7) → ¬ (x5 = 0) → xin x5 7 = true) : X 2 10 [.ref 65, .ref 48, .int x2, .int x3, .int x4, .int x5, xmk, xmk] [] (SH L, mi, ml, MR) d Q =
    if (x5 < 7) then (if (x5 = 0) then (X 2 10 [.ref 65, .ref 48, .int x2, .int x3, .int x4, .int (x5 + 1), xmk, xmk] [] (SH L, mi, (xw ml 66 x5.toNatClampNeg 1), MR) d Q) else (X 2 10 [.ref 65, .ref 48, .int x2, .int x3, .int x4, .int (x5 + 1), xmk, xmk] [] (SH L, mi, (xw ml 66 x5.toNatClampNeg 0), MR) d Q)) else (X 2 46 [.ref 65, .ref 48, .int x2, .int x3, .int x4, .int 0, xmk, xmk] [] (SH L, mi, ml, MR) d Q) := by
  refine (R_pure0 (ins := .iload 5) (len := 2) (loc' := [.ref 65, .ref 48, .int x2, .int x3, .int x4, .int x5, xmk, xmk]) (st' := [.int x5]) (by decide +kernel) (fun _ => rfl)).trans ?_
  refine (R_pure0 (ins := .aload_n 0) (len := 1) (loc' := [.ref 65, .ref 48, .int x2, .int x3, .int x4, .int x5, xmk, xmk]) (st' := [.ref 65, .int x5]) (by decide +kernel) (fun _ => rfl)).trans ?_
  refine (R_gr (i := 9) (ci := 0) (k := 0) (n := 3) (b := 66) (by decide +kernel) (by decide +kernel) (by decide) rfl (SH_ref (by decide +kernel))).trans ?_
  refine (R_arraylength (kd := 101) (n := 7) (by decide +kernel) rfl (by decide)).trans ?_
  show X 2 17 [.ref 65, .ref 48, .int x2, .int x3, .int x4, .int x5, xmk, xmk] [.int 7, .int x5] (SH L, mi, ml, MR) _ _ = _
  refine (R_icmp_ge (off := 26) (t := 43) (by decide +kernel) (by decide +kernel)).trans (ite_congr rfl (fun c0 => ?_) (fun c0 => ?_))
  · refine (R_pure0 (ins := .aload_n 0) (len := 1) (loc' := [.ref 65, .ref 48, .int x2, .int x3, .int x4, .int x5, xmk, xmk]) (st' := [.ref 65]) (by decide +kernel) (fun _ => rfl)).trans ?_
    refine (R_gr (i := 9) (ci := 0) (k := 0) (n := 3) (b := 66) (by decide +kernel) (by decide +kernel) (by decide) rfl (SH_ref (by decide +kernel))).trans ?_
    refine (R_pure0 (ins := .iload 5) (len := 2) (loc' := [.ref 65, .ref 48, .int x2, .int x3, .int x4, .int x5, xmk, xmk]) (st' := [.int x5, .ref 66]) (by decide +kernel) (fun _ => rfl)).trans ?_
    refine (R_pure0 (ins := .iload 5) (len := 2) (loc' := [.ref 65, .ref 48, .int x2, .int x3, .int x4, .int x5, xmk, xmk]) (st' := [.int x5, .int x5, .ref 66]) (by decide +kernel) (fun _ => rfl)).trans ?_
    refine (R_if_ne (off := 7) (t := 35) (by decide +kernel) (by decide +kernel)).trans (ite_congr rfl (fun c1 => ?_) (fun c1 => ?_))
    · refine (R_lconst (n := 1) (v := 1) (by decide +kernel) (by decide +kernel)).trans ?_
      refine (R_goto (off := 4) (t := 36) (by decide +kernel) (by decide +kernel)).trans ?_
      refine (R_lastore (n := 7) (by decide +kernel) rfl (h1 c0 c1)).trans ?_
      refine (R_iinc (k := 5) (n := 1) (x := x5) (v := (x5 + 1)) (loc' := [.ref 65, .ref 48, .int x2, .int x3, .int x4, .int (x5 + 1), xmk, xmk]) (by decide +kernel) rfl rfl rfl).trans ?_
      refine (R_goto (off := (-30)) (t := 10) (by decide +kernel) (by decide +kernel)).trans ?_
      rfl
    · refine (R_lconst (n := 0) (v := 0) (by decide +kernel) (by decide +kernel)).trans ?_
      refine (R_lastore (n := 7) (by decide +kernel) rfl (h2 c0 c1)).trans ?_
      refine (R_iinc (k := 5) (n := 1) (x := x5) (v := (x5 + 1)) (loc' := [.ref 65, .ref 48, .int x2, .int x3, .int x4, .int (x5 + 1), xmk, xmk]) (by decide +kernel) rfl rfl rfl).trans ?_
      refine (R_goto (off := (-30)) (t := 10) (by decide +kernel) (by decide +kernel)).trans ?_
      rfl
  · refine (R_iconst (n := 0) (v := 0) (by decide +kernel) (by decide +kernel)).trans ?_
    refine (R_pure0 (ins := .istore 5) (len := 2) (loc' := [.ref 65, .ref 48, .int x2, .int x3, .int x4, .int 0, xmk, xmk]) (st' := []) (by decide +kernel) (fun _ => rfl)).trans ?_
    rfl
theorem s2_46 {L : Nat} {mi : Nat → Nat → Int32} {ml : Nat → Nat → Int64} {d : Nat} {Q : Option Value → xM → Prop} {x2 x3 x4 x5 : Int32} : X 2 46 [.ref 65, .ref 48, .int x2, .int x3, .int x4, .int x5, xmk, xmk] [] (SH L, mi, ml, MR) d Q =
    if (x5 < x4) then (X 2 62 [.ref 65, .ref 48, .int x2, .int x3, .int x4, .int x5, .int (7 - 1), xmk] [] (SH L, mi, ml, MR) d Q) else (X 2 131 [.ref 65, .ref 48, .int x2, .int x3, .int x4, .long 0, xmk, .int (if x2 < 0 then 0 else x2)] [] (SH L, mi, ml, MR) d Q) := by
  refine (R_pure0 (ins := .iload 5) (len := 2) (loc' := [.ref 65, .ref 48, .int x2, .int x3, .int x4, .int x5, xmk, xmk]) (st' := [.int x5]) (by decide +kernel) (fun _ => rfl)).trans ?_
  refine (R_pure0 (ins := .iload 4) (len := 2) (loc' := [.ref 65, .ref 48, .int x2, .int x3, .int x4, .int x5, xmk, xmk]) (st' := [.int x4, .int x5]) (by decide +kernel) (fun _ => rfl)).trans ?_
  refine (R_icmp_ge (off := 71) (t := 121) (by decide +kernel) (by decide +kernel)).trans (ite_congr rfl (fun c0 => ?_) (fun c0 => ?_))
  · refine (R_pure0 (ins := .aload_n 0) (len := 1) (loc' := [.ref 65, .ref 48, .int x2, .int x3, .int x4, .int x5, xmk, xmk]) (st' := [.ref 65]) (by decide +kernel) (fun _ => rfl)).trans ?_
    refine (R_gr (i := 9) (ci := 0) (k := 0) (n := 3) (b := 66) (by decide +kernel) (by decide +kernel) (by decide) rfl (SH_ref (by decide +kernel))).trans ?_
    refine (R_arraylength (kd := 101) (n := 7) (by decide +kernel) rfl (by decide)).trans ?_
    show X 2 58 [.ref 65, .ref 48, .int x2, .int x3, .int x4, .int x5, xmk, xmk] [.int 7] (SH L, mi, ml, MR) _ _ = _
    refine (R_iconst (n := 1) (v := 1) (by decide +kernel) (by decide +kernel)).trans ?_
    refine (R_pure0 (ins := .isub) (len := 1) (loc' := [.ref 65, .ref 48, .int x2, .int x3, .int x4, .int x5, xmk, xmk]) (st' := [.int (7 - 1)]) (by decide +kernel) (fun _ => rfl)).trans ?_
    refine (R_pure0 (ins := .istore 6) (len := 2) (loc' := [.ref 65, .ref 48, .int x2, .int x3, .int x4, .int x5, .int (7 - 1), xmk]) (st' := []) (by decide +kernel) (fun _ => rfl)).trans ?_
    rfl
  · refine (R_lconst (n := 0) (v := 0) (by decide +kernel) (by decide +kernel)).trans ?_
    refine (R_pure0 (ins := .lstore 5) (len := 2) (loc' := [.ref 65, .ref 48, .int x2, .int x3, .int x4, .long 0, xmk, xmk]) (st' := []) (by decide +kernel) (fun _ => rfl)).trans ?_
    refine (R_pure0 (ins := .iload_n 2) (len := 1) (loc' := [.ref 65, .ref 48, .int x2, .int x3, .int x4, .long 0, xmk, xmk]) (st' := [.int x2]) (by decide +kernel) (fun _ => rfl)).trans ?_
    refine (R_iconst (n := 0) (v := 0) (by decide +kernel) (by decide +kernel)).trans ?_
    refine (R_max (i := 28) (f := 0) (x := x2) (y := 0) (by decide +kernel) (by decide +kernel) rfl).trans ?_
    refine (R_pure0 (ins := .istore 7) (len := 2) (loc' := [.ref 65, .ref 48, .int x2, .int x3, .int x4, .long 0, xmk, .int (if x2 < 0 then 0 else x2)]) (st' := []) (by decide +kernel) (fun _ => rfl)).trans ?_
    rfl
theorem s2_62 {L : Nat} {mi : Nat → Nat → Int32} {ml : Nat → Nat → Int64} {d : Nat} {Q : Option Value → xM → Prop} {x2 x3 x4 x5 x6 : Int32} (h1 : ¬ (x6 < 0) → xin x6 7 = true) (h2 : ¬ (x6 < 0) → ((0 : Int32) < x6) → xin (x6 - 1) 7 = true) (h3 : ¬ (x6 < 0) → ((0 : Int32) < x6) → xin x6 7 = true) (h4 : ¬ (x6 < 0) → ¬ ((0 : Int32) < x6) → xin x6 7 = true) : X 2 62 [.ref 65, .ref 48, .int x2, .int x3, .int x4, .int x5, .int x6, xmk] [] (SH L, mi, ml, MR) d Q =
    if (x6 < 0) then (X 2 46 [.ref 65, .ref 48, .int x2, .int x3, .int x4, .int (x5 + 1), .int x6, xmk] [] (SH L, mi, ml, MR) d Q) else (if ((0 : Int32) < x6) then (X 2 62 [.ref 65, .ref 48, .int x2, .int x3, .int x4, .int x5, .int (x6 + (-1)), xmk] [] (SH L, mi, (xw ml 66 x6.toNatClampNeg (((ml 66 x6.toNatClampNeg) * x3.toInt64) + ((ml 66 (x6 - 1).toNatClampNeg) * (12 - x3).toInt64))), MR) d Q) else (X 2 62 [.ref 65, .ref 48, .int x2, .int x3, .int x4, .int x5, .int (x6 + (-1)), xmk] [] (SH L, mi, (xw ml 66 x6.toNatClampNeg (((ml 66 x6.toNatClampNeg) * x3.toInt64) + 0)), MR) d Q)) := by
  refine (R_pure0 (ins := .iload 6) (len := 2) (loc' := [.ref 65, .ref 48, .int x2, .int x3, .int x4, .int x5, .int x6, xmk]) (st' := [.int x6]) (by decide +kernel) (fun _ => rfl)).trans ?_
  refine (R_if_lt (off := 51) (t := 115) (by decide +kernel) (by decide +kernel)).trans (ite_congr rfl (fun c0 => ?_) (fun c0 => ?_))
  · refine (R_iinc (k := 5) (n := 1) (x := x5) (v := (x5 + 1)) (loc' := [.ref 65, .ref 48, .int x2, .int x3, .int x4, .int (x5 + 1), .int x6, xmk]) (by decide +kernel) rfl rfl rfl).trans ?_
    refine (R_goto (off := (-72)) (t := 46) (by decide +kernel) (by decide +kernel)).trans ?_
    rfl
  · refine (R_pure0 (ins := .aload_n 0) (len := 1) (loc' := [.ref 65, .ref 48, .int x2, .int x3, .int x4, .int x5, .int x6, xmk]) (st' := [.ref 65]) (by decide +kernel) (fun _ => rfl)).trans ?_
    refine (R_gr (i := 9) (ci := 0) (k := 0) (n := 3) (b := 66) (by decide +kernel) (by decide +kernel) (by decide) rfl (SH_ref (by decide +kernel))).trans ?_
    refine (R_pure0 (ins := .iload 6) (len := 2) (loc' := [.ref 65, .ref 48, .int x2, .int x3, .int x4, .int x5, .int x6, xmk]) (st' := [.int x6, .ref 66]) (by decide +kernel) (fun _ => rfl)).trans ?_
    refine (R_pure0 (ins := .aload_n 0) (len := 1) (loc' := [.ref 65, .ref 48, .int x2, .int x3, .int x4, .int x5, .int x6, xmk]) (st' := [.ref 65, .int x6, .ref 66]) (by decide +kernel) (fun _ => rfl)).trans ?_
    refine (R_gr (i := 9) (ci := 0) (k := 0) (n := 3) (b := 66) (by decide +kernel) (by decide +kernel) (by decide) rfl (SH_ref (by decide +kernel))).trans ?_
    refine (R_pure0 (ins := .iload 6) (len := 2) (loc' := [.ref 65, .ref 48, .int x2, .int x3, .int x4, .int x5, .int x6, xmk]) (st' := [.int x6, .ref 66, .int x6, .ref 66]) (by decide +kernel) (fun _ => rfl)).trans ?_
    refine (R_laload (n := 7) (by decide +kernel) rfl (h1 c0)).trans ?_
    refine (R_pure0 (ins := .iload_n 3) (len := 1) (loc' := [.ref 65, .ref 48, .int x2, .int x3, .int x4, .int x5, .int x6, xmk]) (st' := [.int x3, .long (ml 66 x6.toNatClampNeg), .int x6, .ref 66]) (by decide +kernel) (fun _ => rfl)).trans ?_
    refine (R_pure0 (ins := .i2l) (len := 1) (loc' := [.ref 65, .ref 48, .int x2, .int x3, .int x4, .int x5, .int x6, xmk]) (st' := [.long x3.toInt64, .long (ml 66 x6.toNatClampNeg), .int x6, .ref 66]) (by decide +kernel) (fun _ => rfl)).trans ?_
    refine (R_pure0 (ins := .lmul) (len := 1) (loc' := [.ref 65, .ref 48, .int x2, .int x3, .int x4, .int x5, .int x6, xmk]) (st' := [.long ((ml 66 x6.toNatClampNeg) * x3.toInt64), .int x6, .ref 66]) (by decide +kernel) (fun _ => rfl)).trans ?_
    refine (R_pure0 (ins := .iload 6) (len := 2) (loc' := [.ref 65, .ref 48, .int x2, .int x3, .int x4, .int x5, .int x6, xmk]) (st' := [.int x6, .long ((ml 66 x6.toNatClampNeg) * x3.toInt64), .int x6, .ref 66]) (by decide +kernel) (fun _ => rfl)).trans ?_
    refine (R_if_le (off := 21) (t := 106) (by decide +kernel) (by decide +kernel)).trans (ite_congr rfl (fun c1 => ?_) (fun c1 => ?_))
    · refine (R_pure0 (ins := .aload_n 0) (len := 1) (loc' := [.ref 65, .ref 48, .int x2, .int x3, .int x4, .int x5, .int x6, xmk]) (st' := [.ref 65, .long ((ml 66 x6.toNatClampNeg) * x3.toInt64), .int x6, .ref 66]) (by decide +kernel) (fun _ => rfl)).trans ?_
      refine (R_gr (i := 9) (ci := 0) (k := 0) (n := 3) (b := 66) (by decide +kernel) (by decide +kernel) (by decide) rfl (SH_ref (by decide +kernel))).trans ?_
      refine (R_pure0 (ins := .iload 6) (len := 2) (loc' := [.ref 65, .ref 48, .int x2, .int x3, .int x4, .int x5, .int x6, xmk]) (st' := [.int x6, .ref 66, .long ((ml 66 x6.toNatClampNeg) * x3.toInt64), .int x6, .ref 66]) (by decide +kernel) (fun _ => rfl)).trans ?_
      refine (R_iconst (n := 1) (v := 1) (by decide +kernel) (by decide +kernel)).trans ?_
      refine (R_pure0 (ins := .isub) (len := 1) (loc' := [.ref 65, .ref 48, .int x2, .int x3, .int x4, .int x5, .int x6, xmk]) (st' := [.int (x6 - 1), .ref 66, .long ((ml 66 x6.toNatClampNeg) * x3.toInt64), .int x6, .ref 66]) (by decide +kernel) (fun _ => rfl)).trans ?_
      refine (R_laload (n := 7) (by decide +kernel) rfl (h2 c0 c1)).trans ?_
      refine (R_bipush (n := 12) (v := 12) (by decide +kernel) (by decide +kernel)).trans ?_
      refine (R_pure0 (ins := .iload_n 3) (len := 1) (loc' := [.ref 65, .ref 48, .int x2, .int x3, .int x4, .int x5, .int x6, xmk]) (st' := [.int x3, .int 12, .long (ml 66 (x6 - 1).toNatClampNeg), .long ((ml 66 x6.toNatClampNeg) * x3.toInt64), .int x6, .ref 66]) (by decide +kernel) (fun _ => rfl)).trans ?_
      refine (R_pure0 (ins := .isub) (len := 1) (loc' := [.ref 65, .ref 48, .int x2, .int x3, .int x4, .int x5, .int x6, xmk]) (st' := [.int (12 - x3), .long (ml 66 (x6 - 1).toNatClampNeg), .long ((ml 66 x6.toNatClampNeg) * x3.toInt64), .int x6, .ref 66]) (by decide +kernel) (fun _ => rfl)).trans ?_
      refine (R_pure0 (ins := .i2l) (len := 1) (loc' := [.ref 65, .ref 48, .int x2, .int x3, .int x4, .int x5, .int x6, xmk]) (st' := [.long (12 - x3).toInt64, .long (ml 66 (x6 - 1).toNatClampNeg), .long ((ml 66 x6.toNatClampNeg) * x3.toInt64), .int x6, .ref 66]) (by decide +kernel) (fun _ => rfl)).trans ?_
      refine (R_pure0 (ins := .lmul) (len := 1) (loc' := [.ref 65, .ref 48, .int x2, .int x3, .int x4, .int x5, .int x6, xmk]) (st' := [.long ((ml 66 (x6 - 1).toNatClampNeg) * (12 - x3).toInt64), .long ((ml 66 x6.toNatClampNeg) * x3.toInt64), .int x6, .ref 66]) (by decide +kernel) (fun _ => rfl)).trans ?_
      refine (R_goto (off := 4) (t := 107) (by decide +kernel) (by decide +kernel)).trans ?_
      refine (R_pure0 (ins := .ladd) (len := 1) (loc' := [.ref 65, .ref 48, .int x2, .int x3, .int x4, .int x5, .int x6, xmk]) (st' := [.long (((ml 66 x6.toNatClampNeg) * x3.toInt64) + ((ml 66 (x6 - 1).toNatClampNeg) * (12 - x3).toInt64)), .int x6, .ref 66]) (by decide +kernel) (fun _ => rfl)).trans ?_
      refine (R_lastore (n := 7) (by decide +kernel) rfl (h3 c0 c1)).trans ?_
      refine (R_iinc (k := 6) (n := (-1)) (x := x6) (v := (x6 + (-1))) (loc' := [.ref 65, .ref 48, .int x2, .int x3, .int x4, .int x5, .int (x6 + (-1)), xmk]) (by decide +kernel) rfl rfl rfl).trans ?_
      refine (R_goto (off := (-50)) (t := 62) (by decide +kernel) (by decide +kernel)).trans ?_
      rfl
    · refine (R_lconst (n := 0) (v := 0) (by decide +kernel) (by decide +kernel)).trans ?_
      refine (R_pure0 (ins := .ladd) (len := 1) (loc' := [.ref 65, .ref 48, .int x2, .int x3, .int x4, .int x5, .int x6, xmk]) (st' := [.long (((ml 66 x6.toNatClampNeg) * x3.toInt64) + 0), .int x6, .ref 66]) (by decide +kernel) (fun _ => rfl)).trans ?_
      refine (R_lastore (n := 7) (by decide +kernel) rfl (h4 c0 c1)).trans ?_
      refine (R_iinc (k := 6) (n := (-1)) (x := x6) (v := (x6 + (-1))) (loc' := [.ref 65, .ref 48, .int x2, .int x3, .int x4, .int x5, .int (x6 + (-1)), xmk]) (by decide +kernel) rfl rfl rfl).trans ?_
      refine (R_goto (off := (-50)) (t := 62) (by decide +kernel) (by decide +kernel)).trans ?_
      rfl
theorem s2_131 {L : Nat} {mi : Nat → Nat → Int32} {ml : Nat → Nat → Int64} {d : Nat} {Q : Option Value → xM → Prop} {x2 x3 x4 x7 : Int32} {x5 : Int64} (h1 : (x7 < 7) → xin x7 7 = true) : X 2 131 [.ref 65, .ref 48, .int x2, .int x3, .int x4, .long x5, xmk, .int x7] [] (SH L, mi, ml, MR) (d + 1) Q =
    if (x7 < 7) then (X 2 131 [.ref 65, .ref 48, .int x2, .int x3, .int x4, .long (x5 + (ml 66 x7.toNatClampNeg)), xmk, .int (x7 + 1)] [] (SH L, mi, ml, MR) (d + 1) Q) else (Xm 4 [.long 12, .int x4] (SH L, mi, ml, MR) d (fun v μ' => X 2 170 [.ref 65, .ref 48, .int x2, .int x3, .int x4, .long x5, xmk, .int x7] (v.toList ++ [.long x5, .ref 65]) μ' (d + 1) Q)) := by
  refine (R_pure0 (ins := .iload 7) (len := 2) (loc' := [.ref 65, .ref 48, .int x2, .int x3, .int x4, .long x5, xmk, .int x7]) (st' := [.int x7]) (by decide +kernel) (fun _ => rfl)).trans ?_
  refine (R_pure0 (ins := .aload_n 0) (len := 1) (loc' := [.ref 65, .ref 48, .int x2, .int x3, .int x4, .long x5, xmk, .int x7]) (st' := [.ref 65, .int x7]) (by decide +kernel) (fun _ => rfl)).trans ?_
  refine (R_gr (i := 9) (ci := 0) (k := 0) (n := 3) (b := 66) (by decide +kernel) (by decide +kernel) (by decide) rfl (SH_ref (by decide +kernel))).trans ?_
  refine (R_arraylength (kd := 101) (n := 7) (by decide +kernel) rfl (by decide)).trans ?_
  show X 2 138 [.ref 65, .ref 48, .int x2, .int x3, .int x4, .long x5, xmk, .int x7] [.int 7, .int x7] (SH L, mi, ml, MR) _ _ = _
  refine (R_icmp_ge (off := 21) (t := 159) (by decide +kernel) (by decide +kernel)).trans (ite_congr rfl (fun c0 => ?_) (fun c0 => ?_))
  · refine (R_pure0 (ins := .lload 5) (len := 2) (loc' := [.ref 65, .ref 48, .int x2, .int x3, .int x4, .long x5, xmk, .int x7]) (st' := [.long x5]) (by decide +kernel) (fun _ => rfl)).trans ?_
    refine (R_pure0 (ins := .aload_n 0) (len := 1) (loc' := [.ref 65, .ref 48, .int x2, .int x3, .int x4, .long x5, xmk, .int x7]) (st' := [.ref 65, .long x5]) (by decide +kernel) (fun _ => rfl)).trans ?_
    refine (R_gr (i := 9) (ci := 0) (k := 0) (n := 3) (b := 66) (by decide +kernel) (by decide +kernel) (by decide) rfl (SH_ref (by decide +kernel))).trans ?_
    refine (R_pure0 (ins := .iload 7) (len := 2) (loc' := [.ref 65, .ref 48, .int x2, .int x3, .int x4, .long x5, xmk, .int x7]) (st' := [.int x7, .ref 66, .long x5]) (by decide +kernel) (fun _ => rfl)).trans ?_
    refine (R_laload (n := 7) (by decide +kernel) rfl (h1 c0)).trans ?_
    refine (R_pure0 (ins := .ladd) (len := 1) (loc' := [.ref 65, .ref 48, .int x2, .int x3, .int x4, .long x5, xmk, .int x7]) (st' := [.long (x5 + (ml 66 x7.toNatClampNeg))]) (by decide +kernel) (fun _ => rfl)).trans ?_
    refine (R_pure0 (ins := .lstore 5) (len := 2) (loc' := [.ref 65, .ref 48, .int x2, .int x3, .int x4, .long (x5 + (ml 66 x7.toNatClampNeg)), xmk, .int x7]) (st' := []) (by decide +kernel) (fun _ => rfl)).trans ?_
    refine (R_iinc (k := 7) (n := 1) (x := x7) (v := (x7 + 1)) (loc' := [.ref 65, .ref 48, .int x2, .int x3, .int x4, .long (x5 + (ml 66 x7.toNatClampNeg)), xmk, .int (x7 + 1)]) (by decide +kernel) rfl rfl rfl).trans ?_
    refine (R_goto (off := (-25)) (t := 131) (by decide +kernel) (by decide +kernel)).trans ?_
    rfl
  · refine (R_pure0 (ins := .aload_n 0) (len := 1) (loc' := [.ref 65, .ref 48, .int x2, .int x3, .int x4, .long x5, xmk, .int x7]) (st' := [.ref 65]) (by decide +kernel) (fun _ => rfl)).trans ?_
    refine (R_pure0 (ins := .lload 5) (len := 2) (loc' := [.ref 65, .ref 48, .int x2, .int x3, .int x4, .long x5, xmk, .int x7]) (st' := [.long x5, .ref 65]) (by decide +kernel) (fun _ => rfl)).trans ?_
    refine (R_ldc2 (i := 34) (v := 12) (by decide +kernel) (by decide +kernel)).trans ?_
    refine (R_pure0 (ins := .iload 4) (len := 2) (loc' := [.ref 65, .ref 48, .int x2, .int x3, .int x4, .long x5, xmk, .int x7]) (st' := [.int x4, .long 12, .long x5, .ref 65]) (by decide +kernel) (fun _ => rfl)).trans ?_
    refine (R_static (i := 36) (f := 4) (kd := 2) (na := 2) (ml := 6) (As := [.long 12, .int x4]) (rest := [.long x5, .ref 65]) (by decide +kernel) (by decide +kernel) (by decide) (by decide +kernel) rfl rfl (by decide +kernel) (Nat.le_of_ble_eq_true rfl)).trans ?_
    rfl
theorem s2_46v2 {L : Nat} {mi : Nat → Nat → Int32} {ml : Nat → Nat → Int64} {d : Nat} {Q : Option Value → xM → Prop} {x2 x3 x4 x5 x6 : Int32} : X 2 46 [.ref 65, .ref 48, .int x2, .int x3, .int x4, .int x5, .int x6, xmk] [] (SH L, mi, ml, MR) d Q =
    if (x5 < x4) then (X 2 62 [.ref 65, .ref 48, .int x2, .int x3, .int x4, .int x5, .int (7 - 1), xmk] [] (SH L, mi, ml, MR) d Q) else (X 2 131 [.ref 65, .ref 48, .int x2, .int x3, .int x4, .long 0, xmk, .int (if x2 < 0 then 0 else x2)] [] (SH L, mi, ml, MR) d Q) := by
  refine (R_pure0 (ins := .iload 5) (len := 2) (loc' := [.ref 65, .ref 48, .int x2, .int x3, .int x4, .int x5, .int x6, xmk]) (st' := [.int x5]) (by decide +kernel) (fun _ => rfl)).trans ?_
  refine (R_pure0 (ins := .iload 4) (len := 2) (loc' := [.ref 65, .ref 48, .int x2, .int x3, .int x4, .int x5, .int x6, xmk]) (st' := [.int x4, .int x5]) (by decide +kernel) (fun _ => rfl)).trans ?_
  refine (R_icmp_ge (off := 71) (t := 121) (by decide +kernel) (by decide +kernel)).trans (ite_congr rfl (fun c0 => ?_) (fun c0 => ?_))
  · refine (R_pure0 (ins := .aload_n 0) (len := 1) (loc' := [.ref 65, .ref 48, .int x2, .int x3, .int x4, .int x5, .int x6, xmk]) (st' := [.ref 65]) (by decide +kernel) (fun _ => rfl)).trans ?_
    refine (R_gr (i := 9) (ci := 0) (k := 0) (n := 3) (b := 66) (by decide +kernel) (by decide +kernel) (by decide) rfl (SH_ref (by decide +kernel))).trans ?_
    refine (R_arraylength (kd := 101) (n := 7) (by decide +kernel) rfl (by decide)).trans ?_
    show X 2 58 [.ref 65, .ref 48, .int x2, .int x3, .int x4, .int x5, .int x6, xmk] [.int 7] (SH L, mi, ml, MR) _ _ = _
    refine (R_iconst (n := 1) (v := 1) (by decide +kernel) (by decide +kernel)).trans ?_
    refine (R_pure0 (ins := .isub) (len := 1) (loc' := [.ref 65, .ref 48, .int x2, .int x3, .int x4, .int x5, .int x6, xmk]) (st' := [.int (7 - 1)]) (by decide +kernel) (fun _ => rfl)).trans ?_
    refine (R_pure0 (ins := .istore 6) (len := 2) (loc' := [.ref 65, .ref 48, .int x2, .int x3, .int x4, .int x5, .int (7 - 1), xmk]) (st' := []) (by decide +kernel) (fun _ => rfl)).trans ?_
    rfl
  · refine (R_lconst (n := 0) (v := 0) (by decide +kernel) (by decide +kernel)).trans ?_
    refine (R_pure0 (ins := .lstore 5) (len := 2) (loc' := [.ref 65, .ref 48, .int x2, .int x3, .int x4, .long 0, xmk, xmk]) (st' := []) (by decide +kernel) (fun _ => rfl)).trans ?_
    refine (R_pure0 (ins := .iload_n 2) (len := 1) (loc' := [.ref 65, .ref 48, .int x2, .int x3, .int x4, .long 0, xmk, xmk]) (st' := [.int x2]) (by decide +kernel) (fun _ => rfl)).trans ?_
    refine (R_iconst (n := 0) (v := 0) (by decide +kernel) (by decide +kernel)).trans ?_
    refine (R_max (i := 28) (f := 0) (x := x2) (y := 0) (by decide +kernel) (by decide +kernel) rfl).trans ?_
    refine (R_pure0 (ins := .istore 7) (len := 2) (loc' := [.ref 65, .ref 48, .int x2, .int x3, .int x4, .long 0, xmk, .int (if x2 < 0 then 0 else x2)]) (st' := []) (by decide +kernel) (fun _ => rfl)).trans ?_
    rfl
theorem s2_170 {L : Nat} {mi : Nat → Nat → Int32} {ml : Nat → Nat → Int64} {d : Nat} {Q : Option Value → xM → Prop} {x2 x3 x4 x7 : Int32} {x5 y z0 : Int64} : X 2 170 [.ref 65, .ref 48, .int x2, .int x3, .int x4, .long x5, xmk, .int x7] [.long y, .long z0, .ref 65] (SH L, mi, ml, MR) (d + 1) Q =
    Xm 1 [.ref 65, .long z0, .long y] (SH L, mi, ml, MR) d (fun v μ' => X 2 173 [.ref 65, .ref 48, .int x2, .int x3, .int x4, .long x5, xmk, .int x7] (v.toList ++ []) μ' (d + 1) Q) := by
  refine (R_virt (i := 40) (f := 1) (kd := 0) (na := 2) (ml := 12) (ci := 0) (n := 3) (b := 65) (As := [.long z0, .long y]) (rest := []) (by decide +kernel) (by decide +kernel) (by decide) (by decide +kernel) rfl (by decide +kernel) rfl rfl (by decide +kernel) (Nat.le_of_ble_eq_true rfl)).trans ?_
  rfl
theorem s2_173 {L : Nat} {mi : Nat → Nat → Int32} {ml : Nat → Nat → Int64} {d : Nat} {Q : Option Value → xM → Prop} {x2 x3 x4 x7 : Int32} {x5 : Int64} : X 2 173 [.ref 65, .ref 48, .int x2, .int x3, .int x4, .long x5, xmk, .int x7] [] (SH L, mi, ml, MR) d Q =
    Q none (SH L, mi, ml, MR) := by
  exact R_return (by decide +kernel) (by decide +kernel)
theorem s3 {L : Nat} {mi : Nat → Nat → Int32} {ml : Nat → Nat → Int64} {d : Nat} {Q : Option Value → xM → Prop} {x2 : Int32} : Xm 3 [.ref 65, .ref 48, .int x2] (SH L, mi, ml, MR) (d + 1) Q =
    Xm 41 [.ref 48, .int 0] (SH L, mi, ml, MR) d (fun v μ' => X 3 5 [.ref 65, .ref 48, .int x2, xmk, xmk, xmk, xmk, xmk, xmk, xmk] (v.toList ++ []) μ' (d + 1) Q) := by
  rw [Xm_ent (n := 10) (loc := [.ref 65, .ref 48, .int x2, xmk, xmk, xmk, xmk, xmk, xmk, xmk]) (by decide +kernel) rfl]
  refine (R_pure0 (ins := .aload_n 1) (len := 1) (loc' := [.ref 65, .ref 48, .int x2, xmk, xmk, xmk, xmk, xmk, xmk, xmk]) (st' := [.ref 48]) (by decide +kernel) (fun _ => rfl)).trans ?_
  refine (R_iconst (n := 0) (v := 0) (by decide +kernel) (by decide +kernel)).trans ?_
  refine (R_virt (i := 22) (f := 41) (kd := 0) (na := 1) (ml := 4) (ci := 3) (n := 3) (b := 48) (As := [.int 0]) (rest := []) (by decide +kernel) (by decide +kernel) (by decide) (by decide +kernel) rfl (by decide +kernel) rfl rfl (by decide +kernel) (Nat.le_of_ble_eq_true rfl)).trans ?_
  rfl
theorem s3_5 {L : Nat} {mi : Nat → Nat → Int32} {ml : Nat → Nat → Int64} {d : Nat} {Q : Option Value → xM → Prop} {x2 y : Int32} : X 3 5 [.ref 65, .ref 48, .int x2, xmk, xmk, xmk, xmk, xmk, xmk, xmk] [.int y] (SH L, mi, ml, MR) (d + 1) Q =
    Xm 4 [.long 12, .int y] (SH L, mi, ml, MR) d (fun v μ' => X 3 13 [.ref 65, .ref 48, .int x2, .int y, xmk, xmk, xmk, xmk, xmk, xmk] (v.toList ++ []) μ' (d + 1) Q) := by
  refine (R_pure0 (ins := .istore_n 3) (len := 1) (loc' := [.ref 65, .ref 48, .int x2, .int y, xmk, xmk, xmk, xmk, xmk, xmk]) (st' := []) (by decide +kernel) (fun _ => rfl)).trans ?_
  refine (R_ldc2 (i := 34) (v := 12) (by decide +kernel) (by decide +kernel)).trans ?_
  refine (R_pure0 (ins := .iload_n 3) (len := 1) (loc' := [.ref 65, .ref 48, .int x2, .int y, xmk, xmk, xmk, xmk, xmk, xmk]) (st' := [.int y, .long 12]) (by decide +kernel) (fun _ => rfl)).trans ?_
  refine (R_static (i := 36) (f := 4) (kd := 2) (na := 2) (ml := 6) (As := [.long 12, .int y]) (rest := []) (by decide +kernel) (by decide +kernel) (by decide) (by decide +kernel) rfl rfl (by decide +kernel) (Nat.le_of_ble_eq_true rfl)).trans ?_
  rfl
theorem s3_13 {L : Nat} {mi : Nat → Nat → Int32} {ml : Nat → Nat → Int64} {d : Nat} {Q : Option Value → xM → Prop} {x2 x3 : Int32} {y : Int64} : X 3 13 [.ref 65, .ref 48, .int x2, .int x3, xmk, xmk, xmk, xmk, xmk, xmk] [.long y] (SH L, mi, ml, MR) d Q =
    X 3 21 [.ref 65, .ref 48, .int x2, .int x3, .long y, xmk, .long 0, xmk, .int 1, xmk] [] (SH L, mi, ml, MR) d Q := by
  refine (R_pure0 (ins := .lstore 4) (len := 2) (loc' := [.ref 65, .ref 48, .int x2, .int x3, .long y, xmk, xmk, xmk, xmk, xmk]) (st' := []) (by decide +kernel) (fun _ => rfl)).trans ?_
  refine (R_lconst (n := 0) (v := 0) (by decide +kernel) (by decide +kernel)).trans ?_
  refine (R_pure0 (ins := .lstore 6) (len := 2) (loc' := [.ref 65, .ref 48, .int x2, .int x3, .long y, xmk, .long 0, xmk, xmk, xmk]) (st' := []) (by decide +kernel) (fun _ => rfl)).trans ?_
  refine (R_iconst (n := 1) (v := 1) (by decide +kernel) (by decide +kernel)).trans ?_
  refine (R_pure0 (ins := .istore 8) (len := 2) (loc' := [.ref 65, .ref 48, .int x2, .int x3, .long y, xmk, .long 0, xmk, .int 1, xmk]) (st' := []) (by decide +kernel) (fun _ => rfl)).trans ?_
  rfl
theorem s3_21 {L : Nat} {mi : Nat → Nat → Int32} {ml : Nat → Nat → Int64} {d : Nat} {Q : Option Value → xM → Prop} {x2 x3 x8 : Int32} {x4 x6 : Int64} : X 3 21 [.ref 65, .ref 48, .int x2, .int x3, .long x4, xmk, .long x6, xmk, .int x8, xmk] [] (SH L, mi, ml, MR) (d + 1) Q =
    if (x8 < 10) then (Xm 41 [.ref 48, .int x8] (SH L, mi, ml, MR) d (fun v μ' => X 3 34 [.ref 65, .ref 48, .int x2, .int x3, .long x4, xmk, .long x6, xmk, .int x8, xmk] (v.toList ++ []) μ' (d + 1) Q)) else (Xm 1 [.ref 65, .long x6, .long x4] (SH L, mi, ml, MR) d (fun v μ' => X 3 76 [.ref 65, .ref 48, .int x2, .int x3, .long x4, xmk, .long x6, xmk, .int x8, xmk] (v.toList ++ []) μ' (d + 1) Q)) := by
  refine (R_pure0 (ins := .iload 8) (len := 2) (loc' := [.ref 65, .ref 48, .int x2, .int x3, .long x4, xmk, .long x6, xmk, .int x8, xmk]) (st' := [.int x8]) (by decide +kernel) (fun _ => rfl)).trans ?_
  refine (R_bipush (n := 10) (v := 10) (by decide +kernel) (by decide +kernel)).trans ?_
  refine (R_icmp_ge (off := 43) (t := 68) (by decide +kernel) (by decide +kernel)).trans (ite_congr rfl (fun c0 => ?_) (fun c0 => ?_))
  · refine (R_pure0 (ins := .aload_n 1) (len := 1) (loc' := [.ref 65, .ref 48, .int x2, .int x3, .long x4, xmk, .long x6, xmk, .int x8, xmk]) (st' := [.ref 48]) (by decide +kernel) (fun _ => rfl)).trans ?_
    refine (R_pure0 (ins := .iload 8) (len := 2) (loc' := [.ref 65, .ref 48, .int x2, .int x3, .long x4, xmk, .long x6, xmk, .int x8, xmk]) (st' := [.int x8, .ref 48]) (by decide +kernel) (fun _ => rfl)).trans ?_
    refine (R_virt (i := 22) (f := 41) (kd := 0) (na := 1) (ml := 4) (ci := 3) (n := 3) (b := 48) (As := [.int x8]) (rest := []) (by decide +kernel) (by decide +kernel) (by decide) (by decide +kernel) rfl (by decide +kernel) rfl rfl (by decide +kernel) (Nat.le_of_ble_eq_true rfl)).trans ?_
    rfl
  · refine (R_pure0 (ins := .aload_n 0) (len := 1) (loc' := [.ref 65, .ref 48, .int x2, .int x3, .long x4, xmk, .long x6, xmk, .int x8, xmk]) (st' := [.ref 65]) (by decide +kernel) (fun _ => rfl)).trans ?_
    refine (R_pure0 (ins := .lload 6) (len := 2) (loc' := [.ref 65, .ref 48, .int x2, .int x3, .long x4, xmk, .long x6, xmk, .int x8, xmk]) (st' := [.long x6, .ref 65]) (by decide +kernel) (fun _ => rfl)).trans ?_
    refine (R_pure0 (ins := .lload 4) (len := 2) (loc' := [.ref 65, .ref 48, .int x2, .int x3, .long x4, xmk, .long x6, xmk, .int x8, xmk]) (st' := [.long x4, .long x6, .ref 65]) (by decide +kernel) (fun _ => rfl)).trans ?_
    refine (R_virt (i := 40) (f := 1) (kd := 0) (na := 2) (ml := 12) (ci := 0) (n := 3) (b := 65) (As := [.long x6, .long x4]) (rest := []) (by decide +kernel) (by decide +kernel) (by decide) (by decide +kernel) rfl (by decide +kernel) rfl rfl (by decide +kernel) (Nat.le_of_ble_eq_true rfl)).trans ?_
    rfl
theorem s3_34 {L : Nat} {mi : Nat → Nat → Int32} {ml : Nat → Nat → Int64} {d : Nat} {Q : Option Value → xM → Prop} {x2 x3 x8 y : Int32} {x4 x6 : Int64} : X 3 34 [.ref 65, .ref 48, .int x2, .int x3, .long x4, xmk, .long x6, xmk, .int x8, xmk] [.int y] (SH L, mi, ml, MR) (d + 1) Q =
    Xm 4 [.long x2.toInt64, .int y] (SH L, mi, ml, MR) d (fun v μ' => X 3 47 [.ref 65, .ref 48, .int x2, .int x3, .long x4, xmk, .long x6, xmk, .int x8, .int y] (v.toList ++ [.long x4, .long x6]) μ' (d + 1) Q) := by
  refine (R_pure0 (ins := .istore 9) (len := 2) (loc' := [.ref 65, .ref 48, .int x2, .int x3, .long x4, xmk, .long x6, xmk, .int x8, .int y]) (st' := []) (by decide +kernel) (fun _ => rfl)).trans ?_
  refine (R_pure0 (ins := .lload 6) (len := 2) (loc' := [.ref 65, .ref 48, .int x2, .int x3, .long x4, xmk, .long x6, xmk, .int x8, .int y]) (st' := [.long x6]) (by decide +kernel) (fun _ => rfl)).trans ?_
  refine (R_pure0 (ins := .lload 4) (len := 2) (loc' := [.ref 65, .ref 48, .int x2, .int x3, .long x4, xmk, .long x6, xmk, .int x8, .int y]) (st' := [.long x4, .long x6]) (by decide +kernel) (fun _ => rfl)).trans ?_
  refine (R_pure0 (ins := .iload_n 2) (len := 1) (loc' := [.ref 65, .ref 48, .int x2, .int x3, .long x4, xmk, .long x6, xmk, .int x8, .int y]) (st' := [.int x2, .long x4, .long x6]) (by decide +kernel) (fun _ => rfl)).trans ?_
  refine (R_pure0 (ins := .i2l) (len := 1) (loc' := [.ref 65, .ref 48, .int x2, .int x3, .long x4, xmk, .long x6, xmk, .int x8, .int y]) (st' := [.long x2.toInt64, .long x4, .long x6]) (by decide +kernel) (fun _ => rfl)).trans ?_
  refine (R_pure0 (ins := .iload 9) (len := 2) (loc' := [.ref 65, .ref 48, .int x2, .int x3, .long x4, xmk, .long x6, xmk, .int x8, .int y]) (st' := [.int y, .long x2.toInt64, .long x4, .long x6]) (by decide +kernel) (fun _ => rfl)).trans ?_
  refine (R_static (i := 36) (f := 4) (kd := 2) (na := 2) (ml := 6) (As := [.long x2.toInt64, .int y]) (rest := [.long x4, .long x6]) (by decide +kernel) (by decide +kernel) (by decide) (by decide +kernel) rfl rfl (by decide +kernel) (Nat.le_of_ble_eq_true rfl)).trans ?_
  rfl
theorem s3_76 {L : Nat} {mi : Nat → Nat → Int32} {ml : Nat → Nat → Int64} {d : Nat} {Q : Option Value → xM → Prop} {x2 x3 x8 : Int32} {x4 x6 : Int64} : X 3 76 [.ref 65, .ref 48, .int x2, .int x3, .long x4, xmk, .long x6, xmk, .int x8, xmk] [] (SH L, mi, ml, MR) d Q =
    Q none (SH L, mi, ml, MR) := by
  exact R_return (by decide +kernel) (by decide +kernel)
theorem s3_47 {L : Nat} {mi : Nat → Nat → Int32} {ml : Nat → Nat → Int64} {d : Nat} {Q : Option Value → xM → Prop} {x2 x3 x8 x9 : Int32} {x4 x6 y z0 z1 : Int64} : X 3 47 [.ref 65, .ref 48, .int x2, .int x3, .long x4, xmk, .long x6, xmk, .int x8, .int x9] [.long y, .long z0, .long z1] (SH L, mi, ml, MR) (d + 1) Q =
    Xm 4 [.long 12, .int (x3 - x9)] (SH L, mi, ml, MR) d (fun v μ' => X 3 57 [.ref 65, .ref 48, .int x2, .int x3, .long x4, xmk, .long x6, xmk, .int x8, .int x9] (v.toList ++ [.long y, .long z0, .long z1]) μ' (d + 1) Q) := by
  refine (R_ldc2 (i := 34) (v := 12) (by decide +kernel) (by decide +kernel)).trans ?_
  refine (R_pure0 (ins := .iload_n 3) (len := 1) (loc' := [.ref 65, .ref 48, .int x2, .int x3, .long x4, xmk, .long x6, xmk, .int x8, .int x9]) (st' := [.int x3, .long 12, .long y, .long z0, .long z1]) (by decide +kernel) (fun _ => rfl)).trans ?_
  refine (R_pure0 (ins := .iload 9) (len := 2) (loc' := [.ref 65, .ref 48, .int x2, .int x3, .long x4, xmk, .long x6, xmk, .int x8, .int x9]) (st' := [.int x9, .int x3, .long 12, .long y, .long z0, .long z1]) (by decide +kernel) (fun _ => rfl)).trans ?_
  refine (R_pure0 (ins := .isub) (len := 1) (loc' := [.ref 65, .ref 48, .int x2, .int x3, .long x4, xmk, .long x6, xmk, .int x8, .int x9]) (st' := [.int (x3 - x9), .long 12, .long y, .long z0, .long z1]) (by decide +kernel) (fun _ => rfl)).trans ?_
  refine (R_static (i := 36) (f := 4) (kd := 2) (na := 2) (ml := 6) (As := [.long 12, .int (x3 - x9)]) (rest := [.long y, .long z0, .long z1]) (by decide +kernel) (by decide +kernel) (by decide) (by decide +kernel) rfl rfl (by decide +kernel) (Nat.le_of_ble_eq_true rfl)).trans ?_
  rfl
theorem s3_57 {L : Nat} {mi : Nat → Nat → Int32} {ml : Nat → Nat → Int64} {d : Nat} {Q : Option Value → xM → Prop} {x2 x3 x8 x9 : Int32} {x4 x6 y z0 z1 z2 : Int64} : X 3 57 [.ref 65, .ref 48, .int x2, .int x3, .long x4, xmk, .long x6, xmk, .int x8, .int x9] [.long y, .long z0, .long z1, .long z2] (SH L, mi, ml, MR) d Q =
    X 3 21 [.ref 65, .ref 48, .int x2, .int x3, .long x4, xmk, .long (z2 + (z1 - (z0 * y))), xmk, .int (x8 + 1), .int x9] [] (SH L, mi, ml, MR) d Q := by
  refine (R_pure0 (ins := .lmul) (len := 1) (loc' := [.ref 65, .ref 48, .int x2, .int x3, .long x4, xmk, .long x6, xmk, .int x8, .int x9]) (st' := [.long (z0 * y), .long z1, .long z2]) (by decide +kernel) (fun _ => rfl)).trans ?_
  refine (R_pure0 (ins := .lsub) (len := 1) (loc' := [.ref 65, .ref 48, .int x2, .int x3, .long x4, xmk, .long x6, xmk, .int x8, .int x9]) (st' := [.long (z1 - (z0 * y)), .long z2]) (by decide +kernel) (fun _ => rfl)).trans ?_
  refine (R_pure0 (ins := .ladd) (len := 1) (loc' := [.ref 65, .ref 48, .int x2, .int x3, .long x4, xmk, .long x6, xmk, .int x8, .int x9]) (st' := [.long (z2 + (z1 - (z0 * y)))]) (by decide +kernel) (fun _ => rfl)).trans ?_
  refine (R_pure0 (ins := .lstore 6) (len := 2) (loc' := [.ref 65, .ref 48, .int x2, .int x3, .long x4, xmk, .long (z2 + (z1 - (z0 * y))), xmk, .int x8, .int x9]) (st' := []) (by decide +kernel) (fun _ => rfl)).trans ?_
  refine (R_iinc (k := 8) (n := 1) (x := x8) (v := (x8 + 1)) (loc' := [.ref 65, .ref 48, .int x2, .int x3, .long x4, xmk, .long (z2 + (z1 - (z0 * y))), xmk, .int (x8 + 1), .int x9]) (by decide +kernel) rfl rfl rfl).trans ?_
  refine (R_goto (off := (-44)) (t := 21) (by decide +kernel) (by decide +kernel)).trans ?_
  rfl
theorem s3_21v2 {L : Nat} {mi : Nat → Nat → Int32} {ml : Nat → Nat → Int64} {d : Nat} {Q : Option Value → xM → Prop} {x2 x3 x8 x9 : Int32} {x4 x6 : Int64} : X 3 21 [.ref 65, .ref 48, .int x2, .int x3, .long x4, xmk, .long x6, xmk, .int x8, .int x9] [] (SH L, mi, ml, MR) (d + 1) Q =
    if (x8 < 10) then (Xm 41 [.ref 48, .int x8] (SH L, mi, ml, MR) d (fun v μ' => X 3 34 [.ref 65, .ref 48, .int x2, .int x3, .long x4, xmk, .long x6, xmk, .int x8, .int x9] (v.toList ++ []) μ' (d + 1) Q)) else (Xm 1 [.ref 65, .long x6, .long x4] (SH L, mi, ml, MR) d (fun v μ' => X 3 76 [.ref 65, .ref 48, .int x2, .int x3, .long x4, xmk, .long x6, xmk, .int x8, .int x9] (v.toList ++ []) μ' (d + 1) Q)) := by
  refine (R_pure0 (ins := .iload 8) (len := 2) (loc' := [.ref 65, .ref 48, .int x2, .int x3, .long x4, xmk, .long x6, xmk, .int x8, .int x9]) (st' := [.int x8]) (by decide +kernel) (fun _ => rfl)).trans ?_
  refine (R_bipush (n := 10) (v := 10) (by decide +kernel) (by decide +kernel)).trans ?_
  refine (R_icmp_ge (off := 43) (t := 68) (by decide +kernel) (by decide +kernel)).trans (ite_congr rfl (fun c0 => ?_) (fun c0 => ?_))
  · refine (R_pure0 (ins := .aload_n 1) (len := 1) (loc' := [.ref 65, .ref 48, .int x2, .int x3, .long x4, xmk, .long x6, xmk, .int x8, .int x9]) (st' := [.ref 48]) (by decide +kernel) (fun _ => rfl)).trans ?_
    refine (R_pure0 (ins := .iload 8) (len := 2) (loc' := [.ref 65, .ref 48, .int x2, .int x3, .long x4, xmk, .long x6, xmk, .int x8, .int x9]) (st' := [.int x8, .ref 48]) (by decide +kernel) (fun _ => rfl)).trans ?_
    refine (R_virt (i := 22) (f := 41) (kd := 0) (na := 1) (ml := 4) (ci := 3) (n := 3) (b := 48) (As := [.int x8]) (rest := []) (by decide +kernel) (by decide +kernel) (by decide) (by decide +kernel) rfl (by decide +kernel) rfl rfl (by decide +kernel) (Nat.le_of_ble_eq_true rfl)).trans ?_
    rfl
  · refine (R_pure0 (ins := .aload_n 0) (len := 1) (loc' := [.ref 65, .ref 48, .int x2, .int x3, .long x4, xmk, .long x6, xmk, .int x8, .int x9]) (st' := [.ref 65]) (by decide +kernel) (fun _ => rfl)).trans ?_
    refine (R_pure0 (ins := .lload 6) (len := 2) (loc' := [.ref 65, .ref 48, .int x2, .int x3, .long x4, xmk, .long x6, xmk, .int x8, .int x9]) (st' := [.long x6, .ref 65]) (by decide +kernel) (fun _ => rfl)).trans ?_
    refine (R_pure0 (ins := .lload 4) (len := 2) (loc' := [.ref 65, .ref 48, .int x2, .int x3, .long x4, xmk, .long x6, xmk, .int x8, .int x9]) (st' := [.long x4, .long x6, .ref 65]) (by decide +kernel) (fun _ => rfl)).trans ?_
    refine (R_virt (i := 40) (f := 1) (kd := 0) (na := 2) (ml := 12) (ci := 0) (n := 3) (b := 65) (As := [.long x6, .long x4]) (rest := []) (by decide +kernel) (by decide +kernel) (by decide) (by decide +kernel) rfl (by decide +kernel) rfl rfl (by decide +kernel) (Nat.le_of_ble_eq_true rfl)).trans ?_
    rfl
theorem s3_34v2 {L : Nat} {mi : Nat → Nat → Int32} {ml : Nat → Nat → Int64} {d : Nat} {Q : Option Value → xM → Prop} {x2 x3 x8 x9 y : Int32} {x4 x6 : Int64} : X 3 34 [.ref 65, .ref 48, .int x2, .int x3, .long x4, xmk, .long x6, xmk, .int x8, .int x9] [.int y] (SH L, mi, ml, MR) (d + 1) Q =
    Xm 4 [.long x2.toInt64, .int y] (SH L, mi, ml, MR) d (fun v μ' => X 3 47 [.ref 65, .ref 48, .int x2, .int x3, .long x4, xmk, .long x6, xmk, .int x8, .int y] (v.toList ++ [.long x4, .long x6]) μ' (d + 1) Q) := by
  refine (R_pure0 (ins := .istore 9) (len := 2) (loc' := [.ref 65, .ref 48, .int x2, .int x3, .long x4, xmk, .long x6, xmk, .int x8, .int y]) (st' := []) (by decide +kernel) (fun _ => rfl)).trans ?_
  refine (R_pure0 (ins := .lload 6) (len := 2) (loc' := [.ref 65, .ref 48, .int x2, .int x3, .long x4, xmk, .long x6, xmk, .int x8, .int y]) (st' := [.long x6]) (by decide +kernel) (fun _ => rfl)).trans ?_
  refine (R_pure0 (ins := .lload 4) (len := 2) (loc' := [.ref 65, .ref 48, .int x2, .int x3, .long x4, xmk, .long x6, xmk, .int x8, .int y]) (st' := [.long x4, .long x6]) (by decide +kernel) (fun _ => rfl)).trans ?_
  refine (R_pure0 (ins := .iload_n 2) (len := 1) (loc' := [.ref 65, .ref 48, .int x2, .int x3, .long x4, xmk, .long x6, xmk, .int x8, .int y]) (st' := [.int x2, .long x4, .long x6]) (by decide +kernel) (fun _ => rfl)).trans ?_
  refine (R_pure0 (ins := .i2l) (len := 1) (loc' := [.ref 65, .ref 48, .int x2, .int x3, .long x4, xmk, .long x6, xmk, .int x8, .int y]) (st' := [.long x2.toInt64, .long x4, .long x6]) (by decide +kernel) (fun _ => rfl)).trans ?_
  refine (R_pure0 (ins := .iload 9) (len := 2) (loc' := [.ref 65, .ref 48, .int x2, .int x3, .long x4, xmk, .long x6, xmk, .int x8, .int y]) (st' := [.int y, .long x2.toInt64, .long x4, .long x6]) (by decide +kernel) (fun _ => rfl)).trans ?_
  refine (R_static (i := 36) (f := 4) (kd := 2) (na := 2) (ml := 6) (As := [.long x2.toInt64, .int y]) (rest := [.long x4, .long x6]) (by decide +kernel) (by decide +kernel) (by decide) (by decide +kernel) rfl rfl (by decide +kernel) (Nat.le_of_ble_eq_true rfl)).trans ?_
  rfl
theorem s3_76v2 {L : Nat} {mi : Nat → Nat → Int32} {ml : Nat → Nat → Int64} {d : Nat} {Q : Option Value → xM → Prop} {x2 x3 x8 x9 : Int32} {x4 x6 : Int64} : X 3 76 [.ref 65, .ref 48, .int x2, .int x3, .long x4, xmk, .long x6, xmk, .int x8, .int x9] [] (SH L, mi, ml, MR) d Q =
    Q none (SH L, mi, ml, MR) := by
  exact R_return (by decide +kernel) (by decide +kernel)
theorem s4 {L : Nat} {mi : Nat → Nat → Int32} {ml : Nat → Nat → Int64} {d : Nat} {Q : Option Value → xM → Prop} {x2 : Int32} {x0 : Int64} : Xm 4 [.long x0, .int x2] (SH L, mi, ml, MR) d Q =
    X 4 5 [.long x0, xmk, .int x2, .long 1, xmk, .int 0] [] (SH L, mi, ml, MR) d Q := by
  rw [Xm_ent (n := 6) (loc := [.long x0, xmk, .int x2, xmk, xmk, xmk]) (by decide +kernel) rfl]
  refine (R_lconst (n := 1) (v := 1) (by decide +kernel) (by decide +kernel)).trans ?_
  refine (R_pure0 (ins := .lstore_n 3) (len := 1) (loc' := [.long x0, xmk, .int x2, .long 1, xmk, xmk]) (st' := []) (by decide +kernel) (fun _ => rfl)).trans ?_
  refine (R_iconst (n := 0) (v := 0) (by decide +kernel) (by decide +kernel)).trans ?_
  refine (R_pure0 (ins := .istore 5) (len := 2) (loc' := [.long x0, xmk, .int x2, .long 1, xmk, .int 0]) (st' := []) (by decide +kernel) (fun _ => rfl)).trans ?_
  rfl
theorem s4_5 {L : Nat} {mi : Nat → Nat → Int32} {ml : Nat → Nat → Int64} {d : Nat} {Q : Option Value → xM → Prop} {x2 x5 : Int32} {x0 x3 : Int64} : X 4 5 [.long x0, xmk, .int x2, .long x3, xmk, .int x5] [] (SH L, mi, ml, MR) d Q =
    if (x5 < x2) then (X 4 5 [.long x0, xmk, .int x2, .long (x3 * x0), xmk, .int (x5 + 1)] [] (SH L, mi, ml, MR) d Q) else (Q (some (.long x3)) (SH L, mi, ml, MR)) := by
  refine (R_pure0 (ins := .iload 5) (len := 2) (loc' := [.long x0, xmk, .int x2, .long x3, xmk, .int x5]) (st' := [.int x5]) (by decide +kernel) (fun _ => rfl)).trans ?_
  refine (R_pure0 (ins := .iload_n 2) (len := 1) (loc' := [.long x0, xmk, .int x2, .long x3, xmk, .int x5]) (st' := [.int x2, .int x5]) (by decide +kernel) (fun _ => rfl)).trans ?_
  refine (R_icmp_ge (off := 13) (t := 21) (by decide +kernel) (by decide +kernel)).trans (ite_congr rfl (fun c0 => ?_) (fun c0 => ?_))
  · refine (R_pure0 (ins := .lload_n 3) (len := 1) (loc' := [.long x0, xmk, .int x2, .long x3, xmk, .int x5]) (st' := [.long x3]) (by decide +kernel) (fun _ => rfl)).trans ?_
    refine (R_pure0 (ins := .lload_n 0) (len := 1) (loc' := [.long x0, xmk, .int x2, .long x3, xmk, .int x5]) (st' := [.long x0, .long x3]) (by decide +kernel) (fun _ => rfl)).trans ?_
    refine (R_pure0 (ins := .lmul) (len := 1) (loc' := [.long x0, xmk, .int x2, .long x3, xmk, .int x5]) (st' := [.long (x3 * x0)]) (by decide +kernel) (fun _ => rfl)).trans ?_
    refine (R_pure0 (ins := .lstore_n 3) (len := 1) (loc' := [.long x0, xmk, .int x2, .long (x3 * x0), xmk, .int x5]) (st' := []) (by decide +kernel) (fun _ => rfl)).trans ?_
    refine (R_iinc (k := 5) (n := 1) (x := x5) (v := (x5 + 1)) (loc' := [.long x0, xmk, .int x2, .long (x3 * x0), xmk, .int (x5 + 1)]) (by decide +kernel) rfl rfl rfl).trans ?_
    refine (R_goto (off := (-13)) (t := 5) (by decide +kernel) (by decide +kernel)).trans ?_
    rfl
  · refine (R_pure0 (ins := .lload_n 3) (len := 1) (loc' := [.long x0, xmk, .int x2, .long x3, xmk, .int x5]) (st' := [.long x3]) (by decide +kernel) (fun _ => rfl)).trans ?_
    exact R_lreturn (by decide +kernel) (by decide +kernel)
theorem s6 {L : Nat} {mi : Nat → Nat → Int32} {ml : Nat → Nat → Int64} {d : Nat} {Q : Option Value → xM → Prop} {r1 : Nat} {n_r1 : Nat} (hS_r1 : isStrip L r1 n_r1) : Xm 6 [.ref 62, .ref r1] (SH L, mi, ml, MR) d Q =
    X 6 2 [.ref 62, .ref r1, .int 0, xmk] [] (SH L, mi, ml, MR) d Q := by
  rw [Xm_ent (n := 4) (loc := [.ref 62, .ref r1, xmk, xmk]) (by decide +kernel) rfl]
  refine (R_iconst (n := 0) (v := 0) (by decide +kernel) (by decide +kernel)).trans ?_
  refine (R_pure0 (ins := .istore_n 2) (len := 1) (loc' := [.ref 62, .ref r1, .int 0, xmk]) (st' := []) (by decide +kernel) (fun _ => rfl)).trans ?_
  rfl
theorem s6n {L : Nat} {mi : Nat → Nat → Int32} {ml : Nat → Nat → Int64} {d : Nat} {Q : Option Value → xM → Prop} : Xm 6 [.ref 62, .null] (SH L, mi, ml, MR) d Q =
    X 6 2 [.ref 62, .null, .int 0, xmk] [] (SH L, mi, ml, MR) d Q := by
  rw [Xm_ent (n := 4) (loc := [.ref 62, .null, xmk, xmk]) (by decide +kernel) rfl]
  refine (R_iconst (n := 0) (v := 0) (by decide +kernel) (by decide +kernel)).trans ?_
  refine (R_pure0 (ins := .istore_n 2) (len := 1) (loc' := [.ref 62, .null, .int 0, xmk]) (st' := []) (by decide +kernel) (fun _ => rfl)).trans ?_
  rfl
theorem s6_2 {L : Nat} {mi : Nat → Nat → Int32} {ml : Nat → Nat → Int64} {d : Nat} {Q : Option Value → xM → Prop} {x2 : Int32} {r1 : Nat} {n_r1 : Nat} (hS_r1 : isStrip L r1 n_r1) (h1 : (x2 < 6) → xin x2 6 = true) : X 6 2 [.ref 62, .ref r1, .int x2, xmk] [] (SH L, mi, ml, MR) d Q =
    if (x2 < 6) then (X 6 20 [.ref 62, .ref r1, .int x2, .int 0] [] (SH L, (xw mi 63 x2.toNatClampNeg 0), ml, MR) d Q) else (Q none (SH L, mi, ml, MR)) := by
  refine (R_pure0 (ins := .iload_n 2) (len := 1) (loc' := [.ref 62, .ref r1, .int x2, xmk]) (st' := [.int x2]) (by decide +kernel) (fun _ => rfl)).trans ?_
  refine (R_pure0 (ins := .aload_n 0) (len := 1) (loc' := [.ref 62, .ref r1, .int x2, xmk]) (st' := [.ref 62, .int x2]) (by decide +kernel) (fun _ => rfl)).trans ?_
  refine (R_gr (i := 9) (ci := 1) (k := 0) (n := 2) (b := 63) (by decide +kernel) (by decide +kernel) (by decide) rfl (SH_ref (by decide +kernel))).trans ?_
  refine (R_arraylength (kd := 100) (n := 6) (by decide +kernel) rfl (by decide)).trans ?_
  show X 6 8 [.ref 62, .ref r1, .int x2, xmk] [.int 6, .int x2] (SH L, mi, ml, MR) _ _ = _
  refine (R_icmp_ge (off := 55) (t := 63) (by decide +kernel) (by decide +kernel)).trans (ite_congr rfl (fun c0 => ?_) (fun c0 => ?_))
  · refine (R_pure0 (ins := .aload_n 0) (len := 1) (loc' := [.ref 62, .ref r1, .int x2, xmk]) (st' := [.ref 62]) (by decide +kernel) (fun _ => rfl)).trans ?_
    refine (R_gr (i := 9) (ci := 1) (k := 0) (n := 2) (b := 63) (by decide +kernel) (by decide +kernel) (by decide) rfl (SH_ref (by decide +kernel))).trans ?_
    refine (R_pure0 (ins := .iload_n 2) (len := 1) (loc' := [.ref 62, .ref r1, .int x2, xmk]) (st' := [.int x2, .ref 63]) (by decide +kernel) (fun _ => rfl)).trans ?_
    refine (R_iconst (n := 0) (v := 0) (by decide +kernel) (by decide +kernel)).trans ?_
    refine (R_iastore (n := 6) (by decide +kernel) rfl (h1 c0)).trans ?_
    refine (R_iconst (n := 0) (v := 0) (by decide +kernel) (by decide +kernel)).trans ?_
    refine (R_pure0 (ins := .istore_n 3) (len := 1) (loc' := [.ref 62, .ref r1, .int x2, .int 0]) (st' := []) (by decide +kernel) (fun _ => rfl)).trans ?_
    rfl
  · exact R_return (by decide +kernel) (by decide +kernel)
theorem s6_2v2 {L : Nat} {mi : Nat → Nat → Int32} {ml : Nat → Nat → Int64} {d : Nat} {Q : Option Value → xM → Prop} {x2 : Int32} (h1 : (x2 < 6) → xin x2 6 = true) : X 6 2 [.ref 62, .null, .int x2, xmk] [] (SH L, mi, ml, MR) d Q =
    if (x2 < 6) then (X 6 20 [.ref 62, .null, .int x2, .int 0] [] (SH L, (xw mi 63 x2.toNatClampNeg 0), ml, MR) d Q) else (Q none (SH L, mi, ml, MR)) := by
  refine (R_pure0 (ins := .iload_n 2) (len := 1) (loc' := [.ref 62, .null, .int x2, xmk]) (st' := [.int x2]) (by decide +kernel) (fun _ => rfl)).trans ?_
  refine (R_pure0 (ins := .aload_n 0) (len := 1) (loc' := [.ref 62, .null, .int x2, xmk]) (st' := [.ref 62, .int x2]) (by decide +kernel) (fun _ => rfl)).trans ?_
  refine (R_gr (i := 9) (ci := 1) (k := 0) (n := 2) (b := 63) (by decide +kernel) (by decide +kernel) (by decide) rfl (SH_ref (by decide +kernel))).trans ?_
  refine (R_arraylength (kd := 100) (n := 6) (by decide +kernel) rfl (by decide)).trans ?_
  show X 6 8 [.ref 62, .null, .int x2, xmk] [.int 6, .int x2] (SH L, mi, ml, MR) _ _ = _
  refine (R_icmp_ge (off := 55) (t := 63) (by decide +kernel) (by decide +kernel)).trans (ite_congr rfl (fun c0 => ?_) (fun c0 => ?_))
  · refine (R_pure0 (ins := .aload_n 0) (len := 1) (loc' := [.ref 62, .null, .int x2, xmk]) (st' := [.ref 62]) (by decide +kernel) (fun _ => rfl)).trans ?_
    refine (R_gr (i := 9) (ci := 1) (k := 0) (n := 2) (b := 63) (by decide +kernel) (by decide +kernel) (by decide) rfl (SH_ref (by decide +kernel))).trans ?_
    refine (R_pure0 (ins := .iload_n 2) (len := 1) (loc' := [.ref 62, .null, .int x2, xmk]) (st' := [.int x2, .ref 63]) (by decide +kernel) (fun _ => rfl)).trans ?_
    refine (R_iconst (n := 0) (v := 0) (by decide +kernel) (by decide +kernel)).trans ?_
    refine (R_iastore (n := 6) (by decide +kernel) rfl (h1 c0)).trans ?_
    refine (R_iconst (n := 0) (v := 0) (by decide +kernel) (by decide +kernel)).trans ?_
    refine (R_pure0 (ins := .istore_n 3) (len := 1) (loc' := [.ref 62, .null, .int x2, .int 0]) (st' := []) (by decide +kernel) (fun _ => rfl)).trans ?_
    rfl
  · exact R_return (by decide +kernel) (by decide +kernel)
theorem s6_20 {L : Nat} {mi : Nat → Nat → Int32} {ml : Nat → Nat → Int64} {d : Nat} {Q : Option Value → xM → Prop} {x2 x3 : Int32} {r1 : Nat} {n_r1 : Nat} (hS_r1 : isStrip L r1 n_r1) (h1 : (x3 < 10) → xin x2 6 = true) : X 6 20 [.ref 62, .ref r1, .int x2, .int x3] [] (SH L, mi, ml, MR) (d + 1) Q =
    if (x3 < 10) then (Xm 7 [.ref r1, .int x2, .int x3] (SH L, mi, ml, MR) d (fun v μ' => X 6 39 [.ref 62, .ref r1, .int x2, .int x3] (v.toList ++ [.int (mi 63 x2.toNatClampNeg), .int x2, .ref 63]) μ' (d + 1) Q)) else (X 6 2 [.ref 62, .ref r1, .int (x2 + 1), .int x3] [] (SH L, mi, ml, MR) (d + 1) Q) := by
  refine (R_pure0 (ins := .iload_n 3) (len := 1) (loc' := [.ref 62, .ref r1, .int x2, .int x3]) (st' := [.int x3]) (by decide +kernel) (fun _ => rfl)).trans ?_
  refine (R_bipush (n := 10) (v := 10) (by decide +kernel) (by decide +kernel)).trans ?_
  refine (R_icmp_ge (off := 34) (t := 57) (by decide +kernel) (by decide +kernel)).trans (ite_congr rfl (fun c0 => ?_) (fun c0 => ?_))
  · refine (R_pure0 (ins := .aload_n 0) (len := 1) (loc' := [.ref 62, .ref r1, .int x2, .int x3]) (st' := [.ref 62]) (by decide +kernel) (fun _ => rfl)).trans ?_
    refine (R_gr (i := 9) (ci := 1) (k := 0) (n := 2) (b := 63) (by decide +kernel) (by decide +kernel) (by decide) rfl (SH_ref (by decide +kernel))).trans ?_
    refine (R_pure0 (ins := .iload_n 2) (len := 1) (loc' := [.ref 62, .ref r1, .int x2, .int x3]) (st' := [.int x2, .ref 63]) (by decide +kernel) (fun _ => rfl)).trans ?_
    refine (R_pure0 (ins := .dup2) (len := 1) (loc' := [.ref 62, .ref r1, .int x2, .int x3]) (st' := [.int x2, .ref 63, .int x2, .ref 63]) (by decide +kernel) (fun _ => rfl)).trans ?_
    refine (R_iaload (kd := 100) (n := 6) (by decide +kernel) rfl (by decide) (h1 c0)).trans ?_
    refine (R_pure0 (ins := .aload_n 1) (len := 1) (loc' := [.ref 62, .ref r1, .int x2, .int x3]) (st' := [.ref r1, .int (mi 63 x2.toNatClampNeg), .int x2, .ref 63]) (by decide +kernel) (fun _ => rfl)).trans ?_
    refine (R_pure0 (ins := .iload_n 2) (len := 1) (loc' := [.ref 62, .ref r1, .int x2, .int x3]) (st' := [.int x2, .ref r1, .int (mi 63 x2.toNatClampNeg), .int x2, .ref 63]) (by decide +kernel) (fun _ => rfl)).trans ?_
    refine (R_pure0 (ins := .iload_n 3) (len := 1) (loc' := [.ref 62, .ref r1, .int x2, .int x3]) (st' := [.int x3, .int x2, .ref r1, .int (mi 63 x2.toNatClampNeg), .int x2, .ref 63]) (by decide +kernel) (fun _ => rfl)).trans ?_
    refine (R_static (i := 18) (f := 7) (kd := 2) (na := 3) (ml := 4) (As := [.ref r1, .int x2, .int x3]) (rest := [.int (mi 63 x2.toNatClampNeg), .int x2, .ref 63]) (by decide +kernel) (by decide +kernel) (by decide) (by decide +kernel) rfl rfl (by decide +kernel) (Nat.le_of_ble_eq_true rfl)).trans ?_
    rfl
  · refine (R_iinc (k := 2) (n := 1) (x := x2) (v := (x2 + 1)) (loc' := [.ref 62, .ref r1, .int (x2 + 1), .int x3]) (by decide +kernel) rfl rfl rfl).trans ?_
    refine (R_goto (off := (-58)) (t := 2) (by decide +kernel) (by decide +kernel)).trans ?_
    rfl
theorem s6_20v2 {L : Nat} {mi : Nat → Nat → Int32} {ml : Nat → Nat → Int64} {d : Nat} {Q : Option Value → xM → Prop} {x2 x3 : Int32} (h1 : (x3 < 10) → xin x2 6 = true) : X 6 20 [.ref 62, .null, .int x2, .int x3] [] (SH L, mi, ml, MR) (d + 1) Q =
    if (x3 < 10) then (Xm 7 [.null, .int x2, .int x3] (SH L, mi, ml, MR) d (fun v μ' => X 6 39 [.ref 62, .null, .int x2, .int x3] (v.toList ++ [.int (mi 63 x2.toNatClampNeg), .int x2, .ref 63]) μ' (d + 1) Q)) else (X 6 2 [.ref 62, .null, .int (x2 + 1), .int x3] [] (SH L, mi, ml, MR) (d + 1) Q) := by
  refine (R_pure0 (ins := .iload_n 3) (len := 1) (loc' := [.ref 62, .null, .int x2, .int x3]) (st' := [.int x3]) (by decide +kernel) (fun _ => rfl)).trans ?_
  refine (R_bipush (n := 10) (v := 10) (by decide +kernel) (by decide +kernel)).trans ?_
  refine (R_icmp_ge (off := 34) (t := 57) (by decide +kernel) (by decide +kernel)).trans (ite_congr rfl (fun c0 => ?_) (fun c0 => ?_))
  · refine (R_pure0 (ins := .aload_n 0) (len := 1) (loc' := [.ref 62, .null, .int x2, .int x3]) (st' := [.ref 62]) (by decide +kernel) (fun _ => rfl)).trans ?_
    refine (R_gr (i := 9) (ci := 1) (k := 0) (n := 2) (b := 63) (by decide +kernel) (by decide +kernel) (by decide) rfl (SH_ref (by decide +kernel))).trans ?_
    refine (R_pure0 (ins := .iload_n 2) (len := 1) (loc' := [.ref 62, .null, .int x2, .int x3]) (st' := [.int x2, .ref 63]) (by decide +kernel) (fun _ => rfl)).trans ?_
    refine (R_pure0 (ins := .dup2) (len := 1) (loc' := [.ref 62, .null, .int x2, .int x3]) (st' := [.int x2, .ref 63, .int x2, .ref 63]) (by decide +kernel) (fun _ => rfl)).trans ?_
    refine (R_iaload (kd := 100) (n := 6) (by decide +kernel) rfl (by decide) (h1 c0)).trans ?_
    refine (R_pure0 (ins := .aload_n 1) (len := 1) (loc' := [.ref 62, .null, .int x2, .int x3]) (st' := [.null, .int (mi 63 x2.toNatClampNeg), .int x2, .ref 63]) (by decide +kernel) (fun _ => rfl)).trans ?_
    refine (R_pure0 (ins := .iload_n 2) (len := 1) (loc' := [.ref 62, .null, .int x2, .int x3]) (st' := [.int x2, .null, .int (mi 63 x2.toNatClampNeg), .int x2, .ref 63]) (by decide +kernel) (fun _ => rfl)).trans ?_
    refine (R_pure0 (ins := .iload_n 3) (len := 1) (loc' := [.ref 62, .null, .int x2, .int x3]) (st' := [.int x3, .int x2, .null, .int (mi 63 x2.toNatClampNeg), .int x2, .ref 63]) (by decide +kernel) (fun _ => rfl)).trans ?_
    refine (R_static (i := 18) (f := 7) (kd := 2) (na := 3) (ml := 4) (As := [.null, .int x2, .int x3]) (rest := [.int (mi 63 x2.toNatClampNeg), .int x2, .ref 63]) (by decide +kernel) (by decide +kernel) (by decide) (by decide +kernel) rfl rfl (by decide +kernel) (Nat.le_of_ble_eq_true rfl)).trans ?_
    rfl
  · refine (R_iinc (k := 2) (n := 1) (x := x2) (v := (x2 + 1)) (loc' := [.ref 62, .null, .int (x2 + 1), .int x3]) (by decide +kernel) rfl rfl rfl).trans ?_
    refine (R_goto (off := (-58)) (t := 2) (by decide +kernel) (by decide +kernel)).trans ?_
    rfl
theorem s6_39 {L : Nat} {mi : Nat → Nat → Int32} {ml : Nat → Nat → Int64} {d : Nat} {Q : Option Value → xM → Prop} {x2 x3 y z0 z1 : Int32} {r1 : Nat} {n_r1 : Nat} (hS_r1 : isStrip L r1 n_r1) (h1 : (y = 0) → xin z1 6 = true) (h2 : ¬ (y = 0) → xin z1 6 = true) : X 6 39 [.ref 62, .ref r1, .int x2, .int x3] [.int y, .int z0, .int z1, .ref 63] (SH L, mi, ml, MR) d Q =
    if (y = 0) then (X 6 20 [.ref 62, .ref r1, .int x2, .int (x3 + 1)] [] (SH L, (xw mi 63 z1.toNatClampNeg (z0 ||| 0)), ml, MR) d Q) else (X 6 20 [.ref 62, .ref r1, .int x2, .int (x3 + 1)] [] (SH L, (xw mi 63 z1.toNatClampNeg (z0 ||| (1 <<< (x3 &&& 31)))), ml, MR) d Q) := by
  refine (R_if_eq (off := 9) (t := 48) (by decide +kernel) (by decide +kernel)).trans (ite_congr rfl (fun c0 => ?_) (fun c0 => ?_))
  · refine (R_iconst (n := 0) (v := 0) (by decide +kernel) (by decide +kernel)).trans ?_
    refine (R_pure0 (ins := .ior) (len := 1) (loc' := [.ref 62, .ref r1, .int x2, .int x3]) (st' := [.int (z0 ||| 0), .int z1, .ref 63]) (by decide +kernel) (fun _ => rfl)).trans ?_
    refine (R_iastore (n := 6) (by decide +kernel) rfl (h1 c0)).trans ?_
    refine (R_iinc (k := 3) (n := 1) (x := x3) (v := (x3 + 1)) (loc' := [.ref 62, .ref r1, .int x2, .int (x3 + 1)]) (by decide +kernel) rfl rfl rfl).trans ?_
    refine (R_goto (off := (-34)) (t := 20) (by decide +kernel) (by decide +kernel)).trans ?_
    rfl
  · refine (R_iconst (n := 1) (v := 1) (by decide +kernel) (by decide +kernel)).trans ?_
    refine (R_pure0 (ins := .iload_n 3) (len := 1) (loc' := [.ref 62, .ref r1, .int x2, .int x3]) (st' := [.int x3, .int 1, .int z0, .int z1, .ref 63]) (by decide +kernel) (fun _ => rfl)).trans ?_
    refine (R_pure0 (ins := .ishl) (len := 1) (loc' := [.ref 62, .ref r1, .int x2, .int x3]) (st' := [.int (1 <<< (x3 &&& 31)), .int z0, .int z1, .ref 63]) (by decide +kernel) (fun _ => rfl)).trans ?_
    refine (R_goto (off := 4) (t := 49) (by decide +kernel) (by decide +kernel)).trans ?_
    refine (R_pure0 (ins := .ior) (len := 1) (loc' := [.ref 62, .ref r1, .int x2, .int x3]) (st' := [.int (z0 ||| (1 <<< (x3 &&& 31))), .int z1, .ref 63]) (by decide +kernel) (fun _ => rfl)).trans ?_
    refine (R_iastore (n := 6) (by decide +kernel) rfl (h2 c0)).trans ?_
    refine (R_iinc (k := 3) (n := 1) (x := x3) (v := (x3 + 1)) (loc' := [.ref 62, .ref r1, .int x2, .int (x3 + 1)]) (by decide +kernel) rfl rfl rfl).trans ?_
    refine (R_goto (off := (-34)) (t := 20) (by decide +kernel) (by decide +kernel)).trans ?_
    rfl
theorem s6_2v3 {L : Nat} {mi : Nat → Nat → Int32} {ml : Nat → Nat → Int64} {d : Nat} {Q : Option Value → xM → Prop} {x2 x3 : Int32} {r1 : Nat} {n_r1 : Nat} (hS_r1 : isStrip L r1 n_r1) (h1 : (x2 < 6) → xin x2 6 = true) : X 6 2 [.ref 62, .ref r1, .int x2, .int x3] [] (SH L, mi, ml, MR) d Q =
    if (x2 < 6) then (X 6 20 [.ref 62, .ref r1, .int x2, .int 0] [] (SH L, (xw mi 63 x2.toNatClampNeg 0), ml, MR) d Q) else (Q none (SH L, mi, ml, MR)) := by
  refine (R_pure0 (ins := .iload_n 2) (len := 1) (loc' := [.ref 62, .ref r1, .int x2, .int x3]) (st' := [.int x2]) (by decide +kernel) (fun _ => rfl)).trans ?_
  refine (R_pure0 (ins := .aload_n 0) (len := 1) (loc' := [.ref 62, .ref r1, .int x2, .int x3]) (st' := [.ref 62, .int x2]) (by decide +kernel) (fun _ => rfl)).trans ?_
  refine (R_gr (i := 9) (ci := 1) (k := 0) (n := 2) (b := 63) (by decide +kernel) (by decide +kernel) (by decide) rfl (SH_ref (by decide +kernel))).trans ?_
  refine (R_arraylength (kd := 100) (n := 6) (by decide +kernel) rfl (by decide)).trans ?_
  show X 6 8 [.ref 62, .ref r1, .int x2, .int x3] [.int 6, .int x2] (SH L, mi, ml, MR) _ _ = _
  refine (R_icmp_ge (off := 55) (t := 63) (by decide +kernel) (by decide +kernel)).trans (ite_congr rfl (fun c0 => ?_) (fun c0 => ?_))
  · refine (R_pure0 (ins := .aload_n 0) (len := 1) (loc' := [.ref 62, .ref r1, .int x2, .int x3]) (st' := [.ref 62]) (by decide +kernel) (fun _ => rfl)).trans ?_
    refine (R_gr (i := 9) (ci := 1) (k := 0) (n := 2) (b := 63) (by decide +kernel) (by decide +kernel) (by decide) rfl (SH_ref (by decide +kernel))).trans ?_
    refine (R_pure0 (ins := .iload_n 2) (len := 1) (loc' := [.ref 62, .ref r1, .int x2, .int x3]) (st' := [.int x2, .ref 63]) (by decide +kernel) (fun _ => rfl)).trans ?_
    refine (R_iconst (n := 0) (v := 0) (by decide +kernel) (by decide +kernel)).trans ?_
    refine (R_iastore (n := 6) (by decide +kernel) rfl (h1 c0)).trans ?_
    refine (R_iconst (n := 0) (v := 0) (by decide +kernel) (by decide +kernel)).trans ?_
    refine (R_pure0 (ins := .istore_n 3) (len := 1) (loc' := [.ref 62, .ref r1, .int x2, .int 0]) (st' := []) (by decide +kernel) (fun _ => rfl)).trans ?_
    rfl
  · exact R_return (by decide +kernel) (by decide +kernel)
theorem s6_39v2 {L : Nat} {mi : Nat → Nat → Int32} {ml : Nat → Nat → Int64} {d : Nat} {Q : Option Value → xM → Prop} {x2 x3 y z0 z1 : Int32} (h1 : (y = 0) → xin z1 6 = true) (h2 : ¬ (y = 0) → xin z1 6 = true) : X 6 39 [.ref 62, .null, .int x2, .int x3] [.int y, .int z0, .int z1, .ref 63] (SH L, mi, ml, MR) d Q =
    if (y = 0) then (X 6 20 [.ref 62, .null, .int x2, .int (x3 + 1)] [] (SH L, (xw mi 63 z1.toNatClampNeg (z0 ||| 0)), ml, MR) d Q) else (X 6 20 [.ref 62, .null, .int x2, .int (x3 + 1)] [] (SH L, (xw mi 63 z1.toNatClampNeg (z0 ||| (1 <<< (x3 &&& 31)))), ml, MR) d Q) := by
  refine (R_if_eq (off := 9) (t := 48) (by decide +kernel) (by decide +kernel)).trans (ite_congr rfl (fun c0 => ?_) (fun c0 => ?_))
  · refine (R_iconst (n := 0) (v := 0) (by decide +kernel) (by decide +kernel)).trans ?_
    refine (R_pure0 (ins := .ior) (len := 1) (loc' := [.ref 62, .null, .int x2, .int x3]) (st' := [.int (z0 ||| 0), .int z1, .ref 63]) (by decide +kernel) (fun _ => rfl)).trans ?_
    refine (R_iastore (n := 6) (by decide +kernel) rfl (h1 c0)).trans ?_
    refine (R_iinc (k := 3) (n := 1) (x := x3) (v := (x3 + 1)) (loc' := [.ref 62, .null, .int x2, .int (x3 + 1)]) (by decide +kernel) rfl rfl rfl).trans ?_
    refine (R_goto (off := (-34)) (t := 20) (by decide +kernel) (by decide +kernel)).trans ?_
    rfl
  · refine (R_iconst (n := 1) (v := 1) (by decide +kernel) (by decide +kernel)).trans ?_
    refine (R_pure0 (ins := .iload_n 3) (len := 1) (loc' := [.ref 62, .null, .int x2, .int x3]) (st' := [.int x3, .int 1, .int z0, .int z1, .ref 63]) (by decide +kernel) (fun _ => rfl)).trans ?_
    refine (R_pure0 (ins := .ishl) (len := 1) (loc' := [.ref 62, .null, .int x2, .int x3]) (st' := [.int (1 <<< (x3 &&& 31)), .int z0, .int z1, .ref 63]) (by decide +kernel) (fun _ => rfl)).trans ?_
    refine (R_goto (off := 4) (t := 49) (by decide +kernel) (by decide +kernel)).trans ?_
    refine (R_pure0 (ins := .ior) (len := 1) (loc' := [.ref 62, .null, .int x2, .int x3]) (st' := [.int (z0 ||| (1 <<< (x3 &&& 31))), .int z1, .ref 63]) (by decide +kernel) (fun _ => rfl)).trans ?_
    refine (R_iastore (n := 6) (by decide +kernel) rfl (h2 c0)).trans ?_
    refine (R_iinc (k := 3) (n := 1) (x := x3) (v := (x3 + 1)) (loc' := [.ref 62, .null, .int x2, .int (x3 + 1)]) (by decide +kernel) rfl rfl rfl).trans ?_
    refine (R_goto (off := (-34)) (t := 20) (by decide +kernel) (by decide +kernel)).trans ?_
    rfl
theorem s6_2v4 {L : Nat} {mi : Nat → Nat → Int32} {ml : Nat → Nat → Int64} {d : Nat} {Q : Option Value → xM → Prop} {x2 x3 : Int32} (h1 : (x2 < 6) → xin x2 6 = true) : X 6 2 [.ref 62, .null, .int x2, .int x3] [] (SH L, mi, ml, MR) d Q =
    if (x2 < 6) then (X 6 20 [.ref 62, .null, .int x2, .int 0] [] (SH L, (xw mi 63 x2.toNatClampNeg 0), ml, MR) d Q) else (Q none (SH L, mi, ml, MR)) := by
  refine (R_pure0 (ins := .iload_n 2) (len := 1) (loc' := [.ref 62, .null, .int x2, .int x3]) (st' := [.int x2]) (by decide +kernel) (fun _ => rfl)).trans ?_
  refine (R_pure0 (ins := .aload_n 0) (len := 1) (loc' := [.ref 62, .null, .int x2, .int x3]) (st' := [.ref 62, .int x2]) (by decide +kernel) (fun _ => rfl)).trans ?_
  refine (R_gr (i := 9) (ci := 1) (k := 0) (n := 2) (b := 63) (by decide +kernel) (by decide +kernel) (by decide) rfl (SH_ref (by decide +kernel))).trans ?_
  refine (R_arraylength (kd := 100) (n := 6) (by decide +kernel) rfl (by decide)).trans ?_
  show X 6 8 [.ref 62, .null, .int x2, .int x3] [.int 6, .int x2] (SH L, mi, ml, MR) _ _ = _
  refine (R_icmp_ge (off := 55) (t := 63) (by decide +kernel) (by decide +kernel)).trans (ite_congr rfl (fun c0 => ?_) (fun c0 => ?_))
  · refine (R_pure0 (ins := .aload_n 0) (len := 1) (loc' := [.ref 62, .null, .int x2, .int x3]) (st' := [.ref 62]) (by decide +kernel) (fun _ => rfl)).trans ?_
    refine (R_gr (i := 9) (ci := 1) (k := 0) (n := 2) (b := 63) (by decide +kernel) (by decide +kernel) (by decide) rfl (SH_ref (by decide +kernel))).trans ?_
    refine (R_pure0 (ins := .iload_n 2) (len := 1) (loc' := [.ref 62, .null, .int x2, .int x3]) (st' := [.int x2, .ref 63]) (by decide +kernel) (fun _ => rfl)).trans ?_
    refine (R_iconst (n := 0) (v := 0) (by decide +kernel) (by decide +kernel)).trans ?_
    refine (R_iastore (n := 6) (by decide +kernel) rfl (h1 c0)).trans ?_
    refine (R_iconst (n := 0) (v := 0) (by decide +kernel) (by decide +kernel)).trans ?_
    refine (R_pure0 (ins := .istore_n 3) (len := 1) (loc' := [.ref 62, .null, .int x2, .int 0]) (st' := []) (by decide +kernel) (fun _ => rfl)).trans ?_
    rfl
  · exact R_return (by decide +kernel) (by decide +kernel)
theorem s7 {L : Nat} {mi : Nat → Nat → Int32} {ml : Nat → Nat → Int64} {d : Nat} {Q : Option Value → xM → Prop} {x1 x2 : Int32} {r0 : Nat} {n_r0 : Nat} (hS_r0 : isStrip L r0 n_r0) : Xm 7 [.ref r0, .int x1, .int x2] (SH L, mi, ml, MR) d Q =
    X 7 8 [.ref r0, .int x1, .int x2, .int 0] [] (SH L, mi, ml, MR) d Q := by
  rw [Xm_ent (n := 4) (loc := [.ref r0, .int x1, .int x2, xmk]) (by decide +kernel) rfl]
  refine (R_pure0 (ins := .aload_n 0) (len := 1) (loc' := [.ref r0, .int x1, .int x2, xmk]) (st' := [.ref r0]) (by decide +kernel) (fun _ => rfl)).trans ?_
  refine (R_ifnonnull_r (off := 5) (t := 6) (by decide +kernel) (by decide +kernel)).trans ?_
  refine (R_iconst (n := 0) (v := 0) (by decide +kernel) (by decide +kernel)).trans ?_
  refine (R_pure0 (ins := .istore_n 3) (len := 1) (loc' := [.ref r0, .int x1, .int x2, .int 0]) (st' := []) (by decide +kernel) (fun _ => rfl)).trans ?_
  rfl
theorem s7n {L : Nat} {mi : Nat → Nat → Int32} {ml : Nat → Nat → Int64} {d : Nat} {Q : Option Value → xM → Prop} {x1 x2 : Int32} : Xm 7 [.null, .int x1, .int x2] (SH L, mi, ml, MR) d Q =
    Q (some (.int 0)) (SH L, mi, ml, MR) := by
  rw [Xm_ent (n := 4) (loc := [.null, .int x1, .int x2, xmk]) (by decide +kernel) rfl]
  refine (R_pure0 (ins := .aload_n 0) (len := 1) (loc' := [.null, .int x1, .int x2, xmk]) (st' := [.null]) (by decide +kernel) (fun _ => rfl)).trans ?_
  refine (R_ifnonnull_n (off := 5) (by decide +kernel)).trans ?_
  refine (R_iconst (n := 0) (v := 0) (by decide +kernel) (by decide +kernel)).trans ?_
  exact R_zreturn (by decide +kernel) (by decide +kernel) (by decide)
theorem s7_8 {L : Nat} {mi : Nat → Nat → Int32} {ml : Nat → Nat → Int64} {d : Nat} {Q : Option Value → xM → Prop} {x1 x2 x3 : Int32} {r0 : Nat} {n_r0 : Nat} (hS_r0 : isStrip L r0 n_r0) : X 7 8 [.ref r0, .int x1, .int x2, .int x3] [] (SH L, mi, ml, MR) (d + 1) Q =
    Xm 88 [.ref r0] (SH L, mi, ml, MR) d (fun v μ' => X 7 13 [.ref r0, .int x1, .int x2, .int x3] (v.toList ++ [.int x3]) μ' (d + 1) Q) := by
  refine (R_pure0 (ins := .iload_n 3) (len := 1) (loc' := [.ref r0, .int x1, .int x2, .int x3]) (st' := [.int x3]) (by decide +kernel) (fun _ => rfl)).trans ?_
  refine (R_pure0 (ins := .aload_n 0) (len := 1) (loc' := [.ref r0, .int x1, .int x2, .int x3]) (st' := [.ref r0, .int x3]) (by decide +kernel) (fun _ => rfl)).trans ?_
  refine (R_virt (i := 22) (f := 88) (kd := 0) (na := 0) (ml := 1) (ci := 8) (n := 2) (b := r0) (As := []) (rest := [.int x3]) (by decide +kernel) (by decide +kernel) (by decide) (by decide +kernel) rfl (by decide +kernel) hS_r0.1 rfl (by decide +kernel) (Nat.le_of_ble_eq_true rfl)).trans ?_
  rfl
theorem s7_13 {L : Nat} {mi : Nat → Nat → Int32} {ml : Nat → Nat → Int64} {d : Nat} {Q : Option Value → xM → Prop} {x1 x2 x3 y z0 : Int32} {r0 : Nat} {n_r0 : Nat} (hS_r0 : isStrip L r0 n_r0) : X 7 13 [.ref r0, .int x1, .int x2, .int x3] [.int y, .int z0] (SH L, mi, ml, MR) (d + 1) Q =
    if (z0 < y) then (Xm 90 [.ref r0, .int x3] (SH L, mi, ml, MR) d (fun v μ' => X 7 23 [.ref r0, .int x1, .int x2, .int x3] (v.toList ++ [.int x2, .int x1]) μ' (d + 1) Q)) else (Q (some (.int 1)) (SH L, mi, ml, MR)) := by
  refine (R_icmp_ge (off := 31) (t := 44) (by decide +kernel) (by decide +kernel)).trans (ite_congr rfl (fun c0 => ?_) (fun c0 => ?_))
  · refine (R_pure0 (ins := .iload_n 1) (len := 1) (loc' := [.ref r0, .int x1, .int x2, .int x3]) (st' := [.int x1]) (by decide +kernel) (fun _ => rfl)).trans ?_
    refine (R_pure0 (ins := .iload_n 2) (len := 1) (loc' := [.ref r0, .int x1, .int x2, .int x3]) (st' := [.int x2, .int x1]) (by decide +kernel) (fun _ => rfl)).trans ?_
    refine (R_pure0 (ins := .aload_n 0) (len := 1) (loc' := [.ref r0, .int x1, .int x2, .int x3]) (st' := [.ref r0, .int x2, .int x1]) (by decide +kernel) (fun _ => rfl)).trans ?_
    refine (R_pure0 (ins := .iload_n 3) (len := 1) (loc' := [.ref r0, .int x1, .int x2, .int x3]) (st' := [.int x3, .ref r0, .int x2, .int x1]) (by decide +kernel) (fun _ => rfl)).trans ?_
    refine (R_virt (i := 28) (f := 90) (kd := 0) (na := 1) (ml := 2) (ci := 8) (n := 2) (b := r0) (As := [.int x3]) (rest := [.int x2, .int x1]) (by decide +kernel) (by decide +kernel) (by decide) (by decide +kernel) rfl (by decide +kernel) hS_r0.1 rfl (by decide +kernel) (Nat.le_of_ble_eq_true rfl)).trans ?_
    rfl
  · refine (R_iconst (n := 1) (v := 1) (by decide +kernel) (by decide +kernel)).trans ?_
    exact R_zreturn (by decide +kernel) (by decide +kernel) (by decide)
theorem s7_23 {L : Nat} {mi : Nat → Nat → Int32} {ml : Nat → Nat → Int64} {d : Nat} {Q : Option Value → xM → Prop} {x1 x2 x3 y z0 z1 : Int32} {r0 : Nat} {n_r0 : Nat} (hS_r0 : isStrip L r0 n_r0) : X 7 23 [.ref r0, .int x1, .int x2, .int x3] [.int y, .int z0, .int z1] (SH L, mi, ml, MR) (d + 1) Q =
    Xm 48 [.int z1, .int z0, .int y] (SH L, mi, ml, MR) d (fun v μ' => X 7 26 [.ref r0, .int x1, .int x2, .int x3] (v.toList ++ []) μ' (d + 1) Q) := by
  refine (R_static (i := 32) (f := 48) (kd := 2) (na := 3) (ml := 3) (As := [.int z1, .int z0, .int y]) (rest := []) (by decide +kernel) (by decide +kernel) (by decide) (by decide +kernel) rfl rfl (by decide +kernel) (Nat.le_of_ble_eq_true rfl)).trans ?_
  rfl
theorem s7_26 {L : Nat} {mi : Nat → Nat → Int32} {ml : Nat → Nat → Int64} {d : Nat} {Q : Option Value → xM → Prop} {x1 x2 x3 y : Int32} {r0 : Nat} {n_r0 : Nat} (hS_r0 : isStrip L r0 n_r0) : X 7 26 [.ref r0, .int x1, .int x2, .int x3] [.int y] (SH L, mi, ml, MR) (d + 1) Q =
    Xm 90 [.ref r0, .int (x3 + 1)] (SH L, mi, ml, MR) d (fun v μ' => X 7 33 [.ref r0, .int x1, .int x2, .int x3] (v.toList ++ [.int y]) μ' (d + 1) Q) := by
  refine (R_pure0 (ins := .aload_n 0) (len := 1) (loc' := [.ref r0, .int x1, .int x2, .int x3]) (st' := [.ref r0, .int y]) (by decide +kernel) (fun _ => rfl)).trans ?_
  refine (R_pure0 (ins := .iload_n 3) (len := 1) (loc' := [.ref r0, .int x1, .int x2, .int x3]) (st' := [.int x3, .ref r0, .int y]) (by decide +kernel) (fun _ => rfl)).trans ?_
  refine (R_iconst (n := 1) (v := 1) (by decide +kernel) (by decide +kernel)).trans ?_
  refine (R_pure0 (ins := .iadd) (len := 1) (loc' := [.ref r0, .int x1, .int x2, .int x3]) (st' := [.int (x3 + 1), .ref r0, .int y]) (by decide +kernel) (fun _ => rfl)).trans ?_
  refine (R_virt (i := 28) (f := 90) (kd := 0) (na := 1) (ml := 2) (ci := 8) (n := 2) (b := r0) (As := [.int (x3 + 1)]) (rest := [.int y]) (by decide +kernel) (by decide +kernel) (by decide) (by decide +kernel) rfl (by decide +kernel) hS_r0.1 rfl (by decide +kernel) (Nat.le_of_ble_eq_true rfl)).trans ?_
  rfl
theorem s7_33 {L : Nat} {mi : Nat → Nat → Int32} {ml : Nat → Nat → Int64} {d : Nat} {Q : Option Value → xM → Prop} {x1 x2 x3 y z0 : Int32} {r0 : Nat} {n_r0 : Nat} (hS_r0 : isStrip L r0 n_r0) : X 7 33 [.ref r0, .int x1, .int x2, .int x3] [.int y, .int z0] (SH L, mi, ml, MR) d Q =
    if (z0 = y) then (X 7 8 [.ref r0, .int x1, .int x2, .int (x3 + 2)] [] (SH L, mi, ml, MR) d Q) else (Q (some (.int 0)) (SH L, mi, ml, MR)) := by
  refine (R_icmp_eq (off := 5) (t := 38) (by decide +kernel) (by decide +kernel)).trans (ite_congr rfl (fun c0 => ?_) (fun c0 => ?_))
  · refine (R_iinc (k := 3) (n := 2) (x := x3) (v := (x3 + 2)) (loc' := [.ref r0, .int x1, .int x2, .int (x3 + 2)]) (by decide +kernel) rfl rfl rfl).trans ?_
    refine (R_goto (off := (-33)) (t := 8) (by decide +kernel) (by decide +kernel)).trans ?_
    rfl
  · refine (R_iconst (n := 0) (v := 0) (by decide +kernel) (by decide +kernel)).trans ?_
    exact R_zreturn (by decide +kernel) (by decide +kernel) (by decide)
theorem s8 {L : Nat} {mi : Nat → Nat → Int32} {ml : Nat → Nat → Int64} {d : Nat} {Q : Option Value → xM → Prop} {x1 : Int32} (h1 : ¬ (x1 < 0) → (x1 < 6) → xin x1 6 = true) : Xm 8 [.ref 62, .int x1] (SH L, mi, ml, MR) d Q =
    if (x1 < 0) then (Q (some (.int 0)) (SH L, mi, ml, MR)) else (if (x1 < 6) then (Q (some (.int (mi 63 x1.toNatClampNeg))) (SH L, mi, ml, MR)) else (Q (some (.int 0)) (SH L, mi, ml, MR))) := by
  rw [Xm_ent (n := 2) (loc := [.ref 62, .int x1]) (by decide +kernel) rfl]
  refine (R_pure0 (ins := .iload_n 1) (len := 1) (loc' := [.ref 62, .int x1]) (st' := [.int x1]) (by decide +kernel) (fun _ => rfl)).trans ?_
  refine (R_if_lt (off := 21) (t := 22) (by decide +kernel) (by decide +kernel)).trans (ite_congr rfl (fun c0 => ?_) (fun c0 => ?_))
  · refine (R_iconst (n := 0) (v := 0) (by decide +kernel) (by decide +kernel)).trans ?_
    exact R_ireturn (by decide +kernel) (by decide +kernel)
  · refine (R_pure0 (ins := .iload_n 1) (len := 1) (loc' := [.ref 62, .int x1]) (st' := [.int x1]) (by decide +kernel) (fun _ => rfl)).trans ?_
    refine (R_pure0 (ins := .aload_n 0) (len := 1) (loc' := [.ref 62, .int x1]) (st' := [.ref 62, .int x1]) (by decide +kernel) (fun _ => rfl)).trans ?_
    refine (R_gr (i := 9) (ci := 1) (k := 0) (n := 2) (b := 63) (by decide +kernel) (by decide +kernel) (by decide) rfl (SH_ref (by decide +kernel))).trans ?_
    refine (R_arraylength (kd := 100) (n := 6) (by decide +kernel) rfl (by decide)).trans ?_
    show X 8 10 [.ref 62, .int x1] [.int 6, .int x1] (SH L, mi, ml, MR) _ _ = _
    refine (R_icmp_ge (off := 12) (t := 22) (by decide +kernel) (by decide +kernel)).trans (ite_congr rfl (fun c1 => ?_) (fun c1 => ?_))
    · refine (R_pure0 (ins := .aload_n 0) (len := 1) (loc' := [.ref 62, .int x1]) (st' := [.ref 62]) (by decide +kernel) (fun _ => rfl)).trans ?_
      refine (R_gr (i := 9) (ci := 1) (k := 0) (n := 2) (b := 63) (by decide +kernel) (by decide +kernel) (by decide) rfl (SH_ref (by decide +kernel))).trans ?_
      refine (R_pure0 (ins := .iload_n 1) (len := 1) (loc' := [.ref 62, .int x1]) (st' := [.int x1, .ref 63]) (by decide +kernel) (fun _ => rfl)).trans ?_
      refine (R_iaload (kd := 100) (n := 6) (by decide +kernel) rfl (by decide) (h1 c0 c1)).trans ?_
      refine (R_goto (off := 4) (t := 23) (by decide +kernel) (by decide +kernel)).trans ?_
      exact R_ireturn (by decide +kernel) (by decide +kernel)
    · refine (R_iconst (n := 0) (v := 0) (by decide +kernel) (by decide +kernel)).trans ?_
      exact R_ireturn (by decide +kernel) (by decide +kernel)
theorem s9 {L : Nat} {mi : Nat → Nat → Int32} {ml : Nat → Nat → Int64} {d : Nat} {Q : Option Value → xM → Prop} {x1 x2 : Int32} : Xm 9 [.ref 62, .int x1, .int x2] (SH L, mi, ml, MR) (d + 1) Q =
    Xm 8 [.ref 62, .int x1] (SH L, mi, ml, MR) d (fun v μ' => X 9 5 [.ref 62, .int x1, .int x2] (v.toList ++ []) μ' (d + 1) Q) := by
  rw [Xm_ent (n := 3) (loc := [.ref 62, .int x1, .int x2]) (by decide +kernel) rfl]
  refine (R_pure0 (ins := .aload_n 0) (len := 1) (loc' := [.ref 62, .int x1, .int x2]) (st' := [.ref 62]) (by decide +kernel) (fun _ => rfl)).trans ?_
  refine (R_pure0 (ins := .iload_n 1) (len := 1) (loc' := [.ref 62, .int x1, .int x2]) (st' := [.int x1, .ref 62]) (by decide +kernel) (fun _ => rfl)).trans ?_
  refine (R_virt (i := 38) (f := 8) (kd := 0) (na := 1) (ml := 2) (ci := 1) (n := 2) (b := 62) (As := [.int x1]) (rest := []) (by decide +kernel) (by decide +kernel) (by decide) (by decide +kernel) rfl (by decide +kernel) rfl rfl (by decide +kernel) (Nat.le_of_ble_eq_true rfl)).trans ?_
  rfl
theorem s9_5 {L : Nat} {mi : Nat → Nat → Int32} {ml : Nat → Nat → Int64} {d : Nat} {Q : Option Value → xM → Prop} {x1 x2 y : Int32} : X 9 5 [.ref 62, .int x1, .int x2] [.int y] (SH L, mi, ml, MR) d Q =
    if (((y >>> (x2 &&& 31)) &&& 1) = 1) then (Q (some (.int 1)) (SH L, mi, ml, MR)) else (Q (some (.int 0)) (SH L, mi, ml, MR)) := by
  refine (R_pure0 (ins := .iload_n 2) (len := 1) (loc' := [.ref 62, .int x1, .int x2]) (st' := [.int x2, .int y]) (by decide +kernel) (fun _ => rfl)).trans ?_
  refine (R_pure0 (ins := .ishr) (len := 1) (loc' := [.ref 62, .int x1, .int x2]) (st' := [.int (y >>> (x2 &&& 31))]) (by decide +kernel) (fun _ => rfl)).trans ?_
  refine (R_iconst (n := 1) (v := 1) (by decide +kernel) (by decide +kernel)).trans ?_
  refine (R_pure0 (ins := .iand) (len := 1) (loc' := [.ref 62, .int x1, .int x2]) (st' := [.int ((y >>> (x2 &&& 31)) &&& 1)]) (by decide +kernel) (fun _ => rfl)).trans ?_
  refine (R_iconst (n := 1) (v := 1) (by decide +kernel) (by decide +kernel)).trans ?_
  refine (R_icmp_ne (off := 7) (t := 17) (by decide +kernel) (by decide +kernel)).trans (ite_congr rfl (fun c0 => ?_) (fun c0 => ?_))
  · refine (R_iconst (n := 1) (v := 1) (by decide +kernel) (by decide +kernel)).trans ?_
    refine (R_goto (off := 4) (t := 18) (by decide +kernel) (by decide +kernel)).trans ?_
    exact R_zreturn (by decide +kernel) (by decide +kernel) (by decide)
  · refine (R_iconst (n := 0) (v := 0) (by decide +kernel) (by decide +kernel)).trans ?_
    exact R_zreturn (by decide +kernel) (by decide +kernel) (by decide)
theorem s10 {L : Nat} {mi : Nat → Nat → Int32} {ml : Nat → Nat → Int64} {d : Nat} {Q : Option Value → xM → Prop} {x1 : Int32} : Xm 10 [.ref 62, .int x1] (SH L, mi, ml, MR) d Q =
    X 10 4 [.ref 62, .int x1, .int 0, .int 0] [] (SH L, mi, ml, MR) d Q := by
  rw [Xm_ent (n := 4) (loc := [.ref 62, .int x1, xmk, xmk]) (by decide +kernel) rfl]
  refine (R_iconst (n := 0) (v := 0) (by decide +kernel) (by decide +kernel)).trans ?_
  refine (R_pure0 (ins := .istore_n 2) (len := 1) (loc' := [.ref 62, .int x1, .int 0, xmk]) (st' := []) (by decide +kernel) (fun _ => rfl)).trans ?_
  refine (R_iconst (n := 0) (v := 0) (by decide +kernel) (by decide +kernel)).trans ?_
  refine (R_pure0 (ins := .istore_n 3) (len := 1) (loc' := [.ref 62, .int x1, .int 0, .int 0]) (st' := []) (by decide +kernel) (fun _ => rfl)).trans ?_
  rfl
theorem s10_4 {L : Nat} {mi : Nat → Nat → Int32} {ml : Nat → Nat → Int64} {d : Nat} {Q : Option Value → xM → Prop} {x1 x2 x3 : Int32} : X 10 4 [.ref 62, .int x1, .int x2, .int x3] [] (SH L, mi, ml, MR) (d + 1) Q =
    if (x3 < 6) then (Xm 9 [.ref 62, .int x3, .int x1] (SH L, mi, ml, MR) d (fun v μ' => X 10 17 [.ref 62, .int x1, .int x2, .int x3] (v.toList ++ [.int x2]) μ' (d + 1) Q)) else (Q (some (.int x2)) (SH L, mi, ml, MR)) := by
  refine (R_pure0 (ins := .iload_n 3) (len := 1) (loc' := [.ref 62, .int x1, .int x2, .int x3]) (st' := [.int x3]) (by decide +kernel) (fun _ => rfl)).trans ?_
  refine (R_bipush (n := 6) (v := 6) (by decide +kernel) (by decide +kernel)).trans ?_
  refine (R_icmp_ge (off := 28) (t := 35) (by decide +kernel) (by decide +kernel)).trans (ite_congr rfl (fun c0 => ?_) (fun c0 => ?_))
  · refine (R_pure0 (ins := .iload_n 2) (len := 1) (loc' := [.ref 62, .int x1, .int x2, .int x3]) (st' := [.int x2]) (by decide +kernel) (fun _ => rfl)).trans ?_
    refine (R_pure0 (ins := .aload_n 0) (len := 1) (loc' := [.ref 62, .int x1, .int x2, .int x3]) (st' := [.ref 62, .int x2]) (by decide +kernel) (fun _ => rfl)).trans ?_
    refine (R_pure0 (ins := .iload_n 3) (len := 1) (loc' := [.ref 62, .int x1, .int x2, .int x3]) (st' := [.int x3, .ref 62, .int x2]) (by decide +kernel) (fun _ => rfl)).trans ?_
    refine (R_pure0 (ins := .iload_n 1) (len := 1) (loc' := [.ref 62, .int x1, .int x2, .int x3]) (st' := [.int x1, .int x3, .ref 62, .int x2]) (by decide +kernel) (fun _ => rfl)).trans ?_
    refine (R_virt (i := 41) (f := 9) (kd := 0) (na := 2) (ml := 3) (ci := 1) (n := 2) (b := 62) (As := [.int x3, .int x1]) (rest := [.int x2]) (by decide +kernel) (by decide +kernel) (by decide) (by decide +kernel) rfl (by decide +kernel) rfl rfl (by decide +kernel) (Nat.le_of_ble_eq_true rfl)).trans ?_
    rfl
  · refine (R_pure0 (ins := .iload_n 2) (len := 1) (loc' := [.ref 62, .int x1, .int x2, .int x3]) (st' := [.int x2]) (by decide +kernel) (fun _ => rfl)).trans ?_
    exact R_ireturn (by decide +kernel) (by decide +kernel)
theorem s10_17 {L : Nat} {mi : Nat → Nat → Int32} {ml : Nat → Nat → Int64} {d : Nat} {Q : Option Value → xM → Prop} {x1 x2 x3 y z0 : Int32} : X 10 17 [.ref 62, .int x1, .int x2, .int x3] [.int y, .int z0] (SH L, mi, ml, MR) d Q =
    if (y = 0) then (X 10 4 [.ref 62, .int x1, .int (z0 ||| 0), .int (x3 + 1)] [] (SH L, mi, ml, MR) d Q) else (X 10 4 [.ref 62, .int x1, .int (z0 ||| (1 <<< (x3 &&& 31))), .int (x3 + 1)] [] (SH L, mi, ml, MR) d Q) := by
  refine (R_if_eq (off := 9) (t := 26) (by decide +kernel) (by decide +kernel)).trans (ite_congr rfl (fun c0 => ?_) (fun c0 => ?_))
  · refine (R_iconst (n := 0) (v := 0) (by decide +kernel) (by decide +kernel)).trans ?_
    refine (R_pure0 (ins := .ior) (len := 1) (loc' := [.ref 62, .int x1, .int x2, .int x3]) (st' := [.int (z0 ||| 0)]) (by decide +kernel) (fun _ => rfl)).trans ?_
    refine (R_pure0 (ins := .istore_n 2) (len := 1) (loc' := [.ref 62, .int x1, .int (z0 ||| 0), .int x3]) (st' := []) (by decide +kernel) (fun _ => rfl)).trans ?_
    refine (R_iinc (k := 3) (n := 1) (x := x3) (v := (x3 + 1)) (loc' := [.ref 62, .int x1, .int (z0 ||| 0), .int (x3 + 1)]) (by decide +kernel) rfl rfl rfl).trans ?_
    refine (R_goto (off := (-28)) (t := 4) (by decide +kernel) (by decide +kernel)).trans ?_
    rfl
  · refine (R_iconst (n := 1) (v := 1) (by decide +kernel) (by decide +kernel)).trans ?_
    refine (R_pure0 (ins := .iload_n 3) (len := 1) (loc' := [.ref 62, .int x1, .int x2, .int x3]) (st' := [.int x3, .int 1, .int z0]) (by decide +kernel) (fun _ => rfl)).trans ?_
    refine (R_pure0 (ins := .ishl) (len := 1) (loc' := [.ref 62, .int x1, .int x2, .int x3]) (st' := [.int (1 <<< (x3 &&& 31)), .int z0]) (by decide +kernel) (fun _ => rfl)).trans ?_
    refine (R_goto (off := 4) (t := 27) (by decide +kernel) (by decide +kernel)).trans ?_
    refine (R_pure0 (ins := .ior) (len := 1) (loc' := [.ref 62, .int x1, .int x2, .int x3]) (st' := [.int (z0 ||| (1 <<< (x3 &&& 31)))]) (by decide +kernel) (fun _ => rfl)).trans ?_
    refine (R_pure0 (ins := .istore_n 2) (len := 1) (loc' := [.ref 62, .int x1, .int (z0 ||| (1 <<< (x3 &&& 31))), .int x3]) (st' := []) (by decide +kernel) (fun _ => rfl)).trans ?_
    refine (R_iinc (k := 3) (n := 1) (x := x3) (v := (x3 + 1)) (loc' := [.ref 62, .int x1, .int (z0 ||| (1 <<< (x3 &&& 31))), .int (x3 + 1)]) (by decide +kernel) rfl rfl rfl).trans ?_
    refine (R_goto (off := (-28)) (t := 4) (by decide +kernel) (by decide +kernel)).trans ?_
    rfl
theorem s11 {L : Nat} {mi : Nat → Nat → Int32} {ml : Nat → Nat → Int64} {d : Nat} {Q : Option Value → xM → Prop} {x1 : Int32} : Xm 11 [.ref 62, .int x1] (SH L, mi, ml, MR) d Q =
    X 11 4 [.ref 62, .int x1, .int 0, .int 0, xmk] [] (SH L, mi, ml, MR) d Q := by
  rw [Xm_ent (n := 5) (loc := [.ref 62, .int x1, xmk, xmk, xmk]) (by decide +kernel) rfl]
  refine (R_iconst (n := 0) (v := 0) (by decide +kernel) (by decide +kernel)).trans ?_
  refine (R_pure0 (ins := .istore_n 2) (len := 1) (loc' := [.ref 62, .int x1, .int 0, xmk, xmk]) (st' := []) (by decide +kernel) (fun _ => rfl)).trans ?_
  refine (R_iconst (n := 0) (v := 0) (by decide +kernel) (by decide +kernel)).trans ?_
  refine (R_pure0 (ins := .istore_n 3) (len := 1) (loc' := [.ref 62, .int x1, .int 0, .int 0, xmk]) (st' := []) (by decide +kernel) (fun _ => rfl)).trans ?_
  rfl
theorem s11_4 {L : Nat} {mi : Nat → Nat → Int32} {ml : Nat → Nat → Int64} {d : Nat} {Q : Option Value → xM → Prop} {x1 x2 x3 : Int32} : X 11 4 [.ref 62, .int x1, .int x2, .int x3, xmk] [] (SH L, mi, ml, MR) d Q =
    if (x3 < 6) then (X 11 13 [.ref 62, .int x1, .int x2, .int x3, .int 0] [] (SH L, mi, ml, MR) d Q) else (Q (some (.int x2)) (SH L, mi, ml, MR)) := by
  refine (R_pure0 (ins := .iload_n 3) (len := 1) (loc' := [.ref 62, .int x1, .int x2, .int x3, xmk]) (st' := [.int x3]) (by decide +kernel) (fun _ => rfl)).trans ?_
  refine (R_bipush (n := 6) (v := 6) (by decide +kernel) (by decide +kernel)).trans ?_
  refine (R_icmp_ge (off := 51) (t := 58) (by decide +kernel) (by decide +kernel)).trans (ite_congr rfl (fun c0 => ?_) (fun c0 => ?_))
  · refine (R_iconst (n := 0) (v := 0) (by decide +kernel) (by decide +kernel)).trans ?_
    refine (R_pure0 (ins := .istore 4) (len := 2) (loc' := [.ref 62, .int x1, .int x2, .int x3, .int 0]) (st' := []) (by decide +kernel) (fun _ => rfl)).trans ?_
    rfl
  · refine (R_pure0 (ins := .iload_n 2) (len := 1) (loc' := [.ref 62, .int x1, .int x2, .int x3, xmk]) (st' := [.int x2]) (by decide +kernel) (fun _ => rfl)).trans ?_
    exact R_ireturn (by decide +kernel) (by decide +kernel)
theorem s11_13 {L : Nat} {mi : Nat → Nat → Int32} {ml : Nat → Nat → Int64} {d : Nat} {Q : Option Value → xM → Prop} {x1 x2 x3 x4 : Int32} : X 11 13 [.ref 62, .int x1, .int x2, .int x3, .int x4] [] (SH L, mi, ml, MR) (d + 1) Q =
    if (x4 < 10) then (Xm 9 [.ref 62, .int x3, .int x4] (SH L, mi, ml, MR) d (fun v μ' => X 11 28 [.ref 62, .int x1, .int x2, .int x3, .int x4] (v.toList ++ [.int x2]) μ' (d + 1) Q)) else (X 11 4 [.ref 62, .int x1, .int x2, .int (x3 + 1), .int x4] [] (SH L, mi, ml, MR) (d + 1) Q) := by
  refine (R_pure0 (ins := .iload 4) (len := 2) (loc' := [.ref 62, .int x1, .int x2, .int x3, .int x4]) (st' := [.int x4]) (by decide +kernel) (fun _ => rfl)).trans ?_
  refine (R_bipush (n := 10) (v := 10) (by decide +kernel) (by decide +kernel)).trans ?_
  refine (R_icmp_ge (off := 35) (t := 52) (by decide +kernel) (by decide +kernel)).trans (ite_congr rfl (fun c0 => ?_) (fun c0 => ?_))
  · refine (R_pure0 (ins := .iload_n 2) (len := 1) (loc' := [.ref 62, .int x1, .int x2, .int x3, .int x4]) (st' := [.int x2]) (by decide +kernel) (fun _ => rfl)).trans ?_
    refine (R_pure0 (ins := .aload_n 0) (len := 1) (loc' := [.ref 62, .int x1, .int x2, .int x3, .int x4]) (st' := [.ref 62, .int x2]) (by decide +kernel) (fun _ => rfl)).trans ?_
    refine (R_pure0 (ins := .iload_n 3) (len := 1) (loc' := [.ref 62, .int x1, .int x2, .int x3, .int x4]) (st' := [.int x3, .ref 62, .int x2]) (by decide +kernel) (fun _ => rfl)).trans ?_
    refine (R_pure0 (ins := .iload 4) (len := 2) (loc' := [.ref 62, .int x1, .int x2, .int x3, .int x4]) (st' := [.int x4, .int x3, .ref 62, .int x2]) (by decide +kernel) (fun _ => rfl)).trans ?_
    refine (R_virt (i := 41) (f := 9) (kd := 0) (na := 2) (ml := 3) (ci := 1) (n := 2) (b := 62) (As := [.int x3, .int x4]) (rest := [.int x2]) (by decide +kernel) (by decide +kernel) (by decide) (by decide +kernel) rfl (by decide +kernel) rfl rfl (by decide +kernel) (Nat.le_of_ble_eq_true rfl)).trans ?_
    rfl
  · refine (R_iinc (k := 3) (n := 1) (x := x3) (v := (x3 + 1)) (loc' := [.ref 62, .int x1, .int x2, .int (x3 + 1), .int x4]) (by decide +kernel) rfl rfl rfl).trans ?_
    refine (R_goto (off := (-51)) (t := 4) (by decide +kernel) (by decide +kernel)).trans ?_
    rfl
theorem s11_28 {L : Nat} {mi : Nat → Nat → Int32} {ml : Nat → Nat → Int64} {d : Nat} {Q : Option Value → xM → Prop} {x1 x2 x3 x4 y z0 : Int32} : X 11 28 [.ref 62, .int x1, .int x2, .int x3, .int x4] [.int y, .int z0] (SH L, mi, ml, MR) (d + 1) Q =
    if (y = 0) then (X 11 13 [.ref 62, .int x1, .int (z0 ||| 0), .int x3, .int (x4 + 1)] [] (SH L, mi, ml, MR) (d + 1) Q) else (Xm 48 [.int x3, .int x4, .int x1] (SH L, mi, ml, MR) d (fun v μ' => X 11 39 [.ref 62, .int x1, .int x2, .int x3, .int x4] (v.toList ++ [.int 1, .int z0]) μ' (d + 1) Q)) := by
  refine (R_if_eq (off := 15) (t := 43) (by decide +kernel) (by decide +kernel)).trans (ite_congr rfl (fun c0 => ?_) (fun c0 => ?_))
  · refine (R_iconst (n := 0) (v := 0) (by decide +kernel) (by decide +kernel)).trans ?_
    refine (R_pure0 (ins := .ior) (len := 1) (loc' := [.ref 62, .int x1, .int x2, .int x3, .int x4]) (st' := [.int (z0 ||| 0)]) (by decide +kernel) (fun _ => rfl)).trans ?_
    refine (R_pure0 (ins := .istore_n 2) (len := 1) (loc' := [.ref 62, .int x1, .int (z0 ||| 0), .int x3, .int x4]) (st' := []) (by decide +kernel) (fun _ => rfl)).trans ?_
    refine (R_iinc (k := 4) (n := 1) (x := x4) (v := (x4 + 1)) (loc' := [.ref 62, .int x1, .int (z0 ||| 0), .int x3, .int (x4 + 1)]) (by decide +kernel) rfl rfl rfl).trans ?_
    refine (R_goto (off := (-36)) (t := 13) (by decide +kernel) (by decide +kernel)).trans ?_
    rfl
  · refine (R_iconst (n := 1) (v := 1) (by decide +kernel) (by decide +kernel)).trans ?_
    refine (R_pure0 (ins := .iload_n 3) (len := 1) (loc' := [.ref 62, .int x1, .int x2, .int x3, .int x4]) (st' := [.int x3, .int 1, .int z0]) (by decide +kernel) (fun _ => rfl)).trans ?_
    refine (R_pure0 (ins := .iload 4) (len := 2) (loc' := [.ref 62, .int x1, .int x2, .int x3, .int x4]) (st' := [.int x4, .int x3, .int 1, .int z0]) (by decide +kernel) (fun _ => rfl)).trans ?_
    refine (R_pure0 (ins := .iload_n 1) (len := 1) (loc' := [.ref 62, .int x1, .int x2, .int x3, .int x4]) (st' := [.int x1, .int x4, .int x3, .int 1, .int z0]) (by decide +kernel) (fun _ => rfl)).trans ?_
    refine (R_static (i := 32) (f := 48) (kd := 2) (na := 3) (ml := 3) (As := [.int x3, .int x4, .int x1]) (rest := [.int 1, .int z0]) (by decide +kernel) (by decide +kernel) (by decide) (by decide +kernel) rfl rfl (by decide +kernel) (Nat.le_of_ble_eq_true rfl)).trans ?_
    rfl
theorem s11_4v2 {L : Nat} {mi : Nat → Nat → Int32} {ml : Nat → Nat → Int64} {d : Nat} {Q : Option Value → xM → Prop} {x1 x2 x3 x4 : Int32} : X 11 4 [.ref 62, .int x1, .int x2, .int x3, .int x4] [] (SH L, mi, ml, MR) d Q =
    if (x3 < 6) then (X 11 13 [.ref 62, .int x1, .int x2, .int x3, .int 0] [] (SH L, mi, ml, MR) d Q) else (Q (some (.int x2)) (SH L, mi, ml, MR)) := by
  refine (R_pure0 (ins := .iload_n 3) (len := 1) (loc' := [.ref 62, .int x1, .int x2, .int x3, .int x4]) (st' := [.int x3]) (by decide +kernel) (fun _ => rfl)).trans ?_
  refine (R_bipush (n := 6) (v := 6) (by decide +kernel) (by decide +kernel)).trans ?_
  refine (R_icmp_ge (off := 51) (t := 58) (by decide +kernel) (by decide +kernel)).trans (ite_congr rfl (fun c0 => ?_) (fun c0 => ?_))
  · refine (R_iconst (n := 0) (v := 0) (by decide +kernel) (by decide +kernel)).trans ?_
    refine (R_pure0 (ins := .istore 4) (len := 2) (loc' := [.ref 62, .int x1, .int x2, .int x3, .int 0]) (st' := []) (by decide +kernel) (fun _ => rfl)).trans ?_
    rfl
  · refine (R_pure0 (ins := .iload_n 2) (len := 1) (loc' := [.ref 62, .int x1, .int x2, .int x3, .int x4]) (st' := [.int x2]) (by decide +kernel) (fun _ => rfl)).trans ?_
    exact R_ireturn (by decide +kernel) (by decide +kernel)
theorem s11_39 {L : Nat} {mi : Nat → Nat → Int32} {ml : Nat → Nat → Int64} {d : Nat} {Q : Option Value → xM → Prop} {x1 x2 x3 x4 y z0 z1 : Int32} : X 11 39 [.ref 62, .int x1, .int x2, .int x3, .int x4] [.int y, .int z0, .int z1] (SH L, mi, ml, MR) d Q =
    X 11 13 [.ref 62, .int x1, .int (z1 ||| (z0 <<< (y &&& 31))), .int x3, .int (x4 + 1)] [] (SH L, mi, ml, MR) d Q := by
  refine (R_pure0 (ins := .ishl) (len := 1) (loc' := [.ref 62, .int x1, .int x2, .int x3, .int x4]) (st' := [.int (z0 <<< (y &&& 31)), .int z1]) (by decide +kernel) (fun _ => rfl)).trans ?_
  refine (R_goto (off := 4) (t := 44) (by decide +kernel) (by decide +kernel)).trans ?_
  refine (R_pure0 (ins := .ior) (len := 1) (loc' := [.ref 62, .int x1, .int x2, .int x3, .int x4]) (st' := [.int (z1 ||| (z0 <<< (y &&& 31)))]) (by decide +kernel) (fun _ => rfl)).trans ?_
  refine (R_pure0 (ins := .istore_n 2) (len := 1) (loc' := [.ref 62, .int x1, .int (z1 ||| (z0 <<< (y &&& 31))), .int x3, .int x4]) (st' := []) (by decide +kernel) (fun _ => rfl)).trans ?_
  refine (R_iinc (k := 4) (n := 1) (x := x4) (v := (x4 + 1)) (loc' := [.ref 62, .int x1, .int (z1 ||| (z0 <<< (y &&& 31))), .int x3, .int (x4 + 1)]) (by decide +kernel) rfl rfl rfl).trans ?_
  refine (R_goto (off := (-36)) (t := 13) (by decide +kernel) (by decide +kernel)).trans ?_
  rfl
theorem s12 {L : Nat} {mi : Nat → Nat → Int32} {ml : Nat → Nat → Int64} {d : Nat} {Q : Option Value → xM → Prop} {x1 : Int32} : Xm 12 [.ref 62, .int x1] (SH L, mi, ml, MR) d Q =
    X 12 2 [.ref 62, .int x1, .int 0, xmk, xmk, xmk] [] (SH L, mi, ml, MR) d Q := by
  rw [Xm_ent (n := 6) (loc := [.ref 62, .int x1, xmk, xmk, xmk, xmk]) (by decide +kernel) rfl]
  refine (R_iconst (n := 0) (v := 0) (by decide +kernel) (by decide +kernel)).trans ?_
  refine (R_pure0 (ins := .istore_n 2) (len := 1) (loc' := [.ref 62, .int x1, .int 0, xmk, xmk, xmk]) (st' := []) (by decide +kernel) (fun _ => rfl)).trans ?_
  rfl
theorem s12_2 {L : Nat} {mi : Nat → Nat → Int32} {ml : Nat → Nat → Int64} {d : Nat} {Q : Option Value → xM → Prop} {x1 x2 : Int32} (h1 : (x2 < 10) → xin x2 10 = true) : X 12 2 [.ref 62, .int x1, .int x2, xmk, xmk, xmk] [] (SH L, mi, ml, MR) d Q =
    if (x2 < 10) then (X 12 2 [.ref 62, .int x1, .int (x2 + 1), xmk, xmk, xmk] [] (SH L, (xw mi 64 x2.toNatClampNeg 0), ml, MR) d Q) else (X 12 28 [.ref 62, .int x1, .int 0, .int 0, xmk, xmk] [] (SH L, mi, ml, MR) d Q) := by
  refine (R_pure0 (ins := .iload_n 2) (len := 1) (loc' := [.ref 62, .int x1, .int x2, xmk, xmk, xmk]) (st' := [.int x2]) (by decide +kernel) (fun _ => rfl)).trans ?_
  refine (R_pure0 (ins := .aload_n 0) (len := 1) (loc' := [.ref 62, .int x1, .int x2, xmk, xmk, xmk]) (st' := [.ref 62, .int x2]) (by decide +kernel) (fun _ => rfl)).trans ?_
  refine (R_gr (i := 15) (ci := 1) (k := 1) (n := 2) (b := 64) (by decide +kernel) (by decide +kernel) (by decide) rfl (SH_ref (by decide +kernel))).trans ?_
  refine (R_arraylength (kd := 100) (n := 10) (by decide +kernel) rfl (by decide)).trans ?_
  show X 12 8 [.ref 62, .int x1, .int x2, xmk, xmk, xmk] [.int 10, .int x2] (SH L, mi, ml, MR) _ _ = _
  refine (R_icmp_ge (off := 16) (t := 24) (by decide +kernel) (by decide +kernel)).trans (ite_congr rfl (fun c0 => ?_) (fun c0 => ?_))
  · refine (R_pure0 (ins := .aload_n 0) (len := 1) (loc' := [.ref 62, .int x1, .int x2, xmk, xmk, xmk]) (st' := [.ref 62]) (by decide +kernel) (fun _ => rfl)).trans ?_
    refine (R_gr (i := 15) (ci := 1) (k := 1) (n := 2) (b := 64) (by decide +kernel) (by decide +kernel) (by decide) rfl (SH_ref (by decide +kernel))).trans ?_
    refine (R_pure0 (ins := .iload_n 2) (len := 1) (loc' := [.ref 62, .int x1, .int x2, xmk, xmk, xmk]) (st' := [.int x2, .ref 64]) (by decide +kernel) (fun _ => rfl)).trans ?_
    refine (R_iconst (n := 0) (v := 0) (by decide +kernel) (by decide +kernel)).trans ?_
    refine (R_iastore (n := 10) (by decide +kernel) rfl (h1 c0)).trans ?_
    refine (R_iinc (k := 2) (n := 1) (x := x2) (v := (x2 + 1)) (loc' := [.ref 62, .int x1, .int (x2 + 1), xmk, xmk, xmk]) (by decide +kernel) rfl rfl rfl).trans ?_
    refine (R_goto (off := (-19)) (t := 2) (by decide +kernel) (by decide +kernel)).trans ?_
    rfl
  · refine (R_iconst (n := 0) (v := 0) (by decide +kernel) (by decide +kernel)).trans ?_
    refine (R_pure0 (ins := .istore_n 2) (len := 1) (loc' := [.ref 62, .int x1, .int 0, xmk, xmk, xmk]) (st' := []) (by decide +kernel) (fun _ => rfl)).trans ?_
    refine (R_iconst (n := 0) (v := 0) (by decide +kernel) (by decide +kernel)).trans ?_
    refine (R_pure0 (ins := .istore_n 3) (len := 1) (loc' := [.ref 62, .int x1, .int 0, .int 0, xmk, xmk]) (st' := []) (by decide +kernel) (fun _ => rfl)).trans ?_
    rfl
theorem s12_28 {L : Nat} {mi : Nat → Nat → Int32} {ml : Nat → Nat → Int64} {d : Nat} {Q : Option Value → xM → Prop} {x1 x2 x3 : Int32} : X 12 28 [.ref 62, .int x1, .int x2, .int x3, xmk, xmk] [] (SH L, mi, ml, MR) d Q =
    if (x3 < 6) then (X 12 37 [.ref 62, .int x1, .int x2, .int x3, .int 0, xmk] [] (SH L, mi, ml, MR) d Q) else (Q (some (.int x2)) (SH L, mi, ml, MR)) := by
  refine (R_pure0 (ins := .iload_n 3) (len := 1) (loc' := [.ref 62, .int x1, .int x2, .int x3, xmk, xmk]) (st' := [.int x3]) (by decide +kernel) (fun _ => rfl)).trans ?_
  refine (R_bipush (n := 6) (v := 6) (by decide +kernel) (by decide +kernel)).trans ?_
  refine (R_icmp_ge (off := 82) (t := 113) (by decide +kernel) (by decide +kernel)).trans (ite_congr rfl (fun c0 => ?_) (fun c0 => ?_))
  · refine (R_iconst (n := 0) (v := 0) (by decide +kernel) (by decide +kernel)).trans ?_
    refine (R_pure0 (ins := .istore 4) (len := 2) (loc' := [.ref 62, .int x1, .int x2, .int x3, .int 0, xmk]) (st' := []) (by decide +kernel) (fun _ => rfl)).trans ?_
    rfl
  · refine (R_pure0 (ins := .iload_n 2) (len := 1) (loc' := [.ref 62, .int x1, .int x2, .int x3, xmk, xmk]) (st' := [.int x2]) (by decide +kernel) (fun _ => rfl)).trans ?_
    exact R_ireturn (by decide +kernel) (by decide +kernel)
theorem s12_37 {L : Nat} {mi : Nat → Nat → Int32} {ml : Nat → Nat → Int64} {d : Nat} {Q : Option Value → xM → Prop} {x1 x2 x3 x4 : Int32} : X 12 37 [.ref 62, .int x1, .int x2, .int x3, .int x4, xmk] [] (SH L, mi, ml, MR) (d + 1) Q =
    if (x4 < 10) then (Xm 48 [.int x3, .int x4, .int x1] (SH L, mi, ml, MR) d (fun v μ' => X 12 51 [.ref 62, .int x1, .int x2, .int x3, .int x4, xmk] (v.toList ++ []) μ' (d + 1) Q)) else (X 12 28 [.ref 62, .int x1, .int x2, .int (x3 + 1), .int x4, xmk] [] (SH L, mi, ml, MR) (d + 1) Q) := by
  refine (R_pure0 (ins := .iload 4) (len := 2) (loc' := [.ref 62, .int x1, .int x2, .int x3, .int x4, xmk]) (st' := [.int x4]) (by decide +kernel) (fun _ => rfl)).trans ?_
  refine (R_bipush (n := 10) (v := 10) (by decide +kernel) (by decide +kernel)).trans ?_
  refine (R_icmp_ge (off := 66) (t := 107) (by decide +kernel) (by decide +kernel)).trans (ite_congr rfl (fun c0 => ?_) (fun c0 => ?_))
  · refine (R_pure0 (ins := .iload_n 3) (len := 1) (loc' := [.ref 62, .int x1, .int x2, .int x3, .int x4, xmk]) (st' := [.int x3]) (by decide +kernel) (fun _ => rfl)).trans ?_
    refine (R_pure0 (ins := .iload 4) (len := 2) (loc' := [.ref 62, .int x1, .int x2, .int x3, .int x4, xmk]) (st' := [.int x4, .int x3]) (by decide +kernel) (fun _ => rfl)).trans ?_
    refine (R_pure0 (ins := .iload_n 1) (len := 1) (loc' := [.ref 62, .int x1, .int x2, .int x3, .int x4, xmk]) (st' := [.int x1, .int x4, .int x3]) (by decide +kernel) (fun _ => rfl)).trans ?_
    refine (R_static (i := 32) (f := 48) (kd := 2) (na := 3) (ml := 3) (As := [.int x3, .int x4, .int x1]) (rest := []) (by decide +kernel) (by decide +kernel) (by decide) (by decide +kernel) rfl rfl (by decide +kernel) (Nat.le_of_ble_eq_true rfl)).trans ?_
    rfl
  · refine (R_iinc (k := 3) (n := 1) (x := x3) (v := (x3 + 1)) (loc' := [.ref 62, .int x1, .int x2, .int (x3 + 1), .int x4, xmk]) (by decide +kernel) rfl rfl rfl).trans ?_
    refine (R_goto (off := (-82)) (t := 28) (by decide +kernel) (by decide +kernel)).trans ?_
    rfl
theorem s12_51 {L : Nat} {mi : Nat → Nat → Int32} {ml : Nat → Nat → Int64} {d : Nat} {Q : Option Value → xM → Prop} {x1 x2 x3 x4 y : Int32} : X 12 51 [.ref 62, .int x1, .int x2, .int x3, .int x4, xmk] [.int y] (SH L, mi, ml, MR) (d + 1) Q =
    Xm 9 [.ref 62, .int x3, .int x4] (SH L, mi, ml, MR) d (fun v μ' => X 12 60 [.ref 62, .int x1, .int x2, .int x3, .int x4, .int y] (v.toList ++ []) μ' (d + 1) Q) := by
  refine (R_pure0 (ins := .istore 5) (len := 2) (loc' := [.ref 62, .int x1, .int x2, .int x3, .int x4, .int y]) (st' := []) (by decide +kernel) (fun _ => rfl)).trans ?_
  refine (R_pure0 (ins := .aload_n 0) (len := 1) (loc' := [.ref 62, .int x1, .int x2, .int x3, .int x4, .int y]) (st' := [.ref 62]) (by decide +kernel) (fun _ => rfl)).trans ?_
  refine (R_pure0 (ins := .iload_n 3) (len := 1) (loc' := [.ref 62, .int x1, .int x2, .int x3, .int x4, .int y]) (st' := [.int x3, .ref 62]) (by decide +kernel) (fun _ => rfl)).trans ?_
  refine (R_pure0 (ins := .iload 4) (len := 2) (loc' := [.ref 62, .int x1, .int x2, .int x3, .int x4, .int y]) (st' := [.int x4, .int x3, .ref 62]) (by decide +kernel) (fun _ => rfl)).trans ?_
  refine (R_virt (i := 41) (f := 9) (kd := 0) (na := 2) (ml := 3) (ci := 1) (n := 2) (b := 62) (As := [.int x3, .int x4]) (rest := []) (by decide +kernel) (by decide +kernel) (by decide) (by decide +kernel) rfl (by decide +kernel) rfl rfl (by decide +kernel) (Nat.le_of_ble_eq_true rfl)).trans ?_
  rfl
theorem s12_28v2 {L : Nat} {mi : Nat → Nat → Int32} {ml : Nat → Nat → Int64} {d : Nat} {Q : Option Value → xM → Prop} {x1 x2 x3 x4 : Int32} : X 12 28 [.ref 62, .int x1, .int x2, .int x3, .int x4, xmk] [] (SH L, mi, ml, MR) d Q =
    if (x3 < 6) then (X 12 37 [.ref 62, .int x1, .int x2, .int x3, .int 0, xmk] [] (SH L, mi, ml, MR) d Q) else (Q (some (.int x2)) (SH L, mi, ml, MR)) := by
  refine (R_pure0 (ins := .iload_n 3) (len := 1) (loc' := [.ref 62, .int x1, .int x2, .int x3, .int x4, xmk]) (st' := [.int x3]) (by decide +kernel) (fun _ => rfl)).trans ?_
  refine (R_bipush (n := 6) (v := 6) (by decide +kernel) (by decide +kernel)).trans ?_
  refine (R_icmp_ge (off := 82) (t := 113) (by decide +kernel) (by decide +kernel)).trans (ite_congr rfl (fun c0 => ?_) (fun c0 => ?_))
  · refine (R_iconst (n := 0) (v := 0) (by decide +kernel) (by decide +kernel)).trans ?_
    refine (R_pure0 (ins := .istore 4) (len := 2) (loc' := [.ref 62, .int x1, .int x2, .int x3, .int 0, xmk]) (st' := []) (by decide +kernel) (fun _ => rfl)).trans ?_
    rfl
  · refine (R_pure0 (ins := .iload_n 2) (len := 1) (loc' := [.ref 62, .int x1, .int x2, .int x3, .int x4, xmk]) (st' := [.int x2]) (by decide +kernel) (fun _ => rfl)).trans ?_
    exact R_ireturn (by decide +kernel) (by decide +kernel)
theorem s12_60 {L : Nat} {mi : Nat → Nat → Int32} {ml : Nat → Nat → Int64} {d : Nat} {Q : Option Value → xM → Prop} {x1 x2 x3 x4 x5 y : Int32} (h1 : ¬ (y = 0) → ¬ (x5 < 0) → (x5 < 10) → xin x5 10 = true) (h2 : ¬ (y = 0) → ¬ (x5 < 0) → (x5 < 10) → xin x5 10 = true) (h3 : ¬ (y = 0) → ¬ (x5 < 0) → (x5 < 10) → xin x5 10 = true) : X 12 60 [.ref 62, .int x1, .int x2, .int x3, .int x4, .int x5] [.int y] (SH L, mi, ml, MR) d Q =
    if (y = 0) then (X 12 37 [.ref 62, .int x1, .int x2, .int x3, .int (x4 + 1), .int x5] [] (SH L, mi, ml, MR) d Q) else (if (x5 < 0) then (X 12 37 [.ref 62, .int x1, .int x2, .int x3, .int (x4 + 1), .int x5] [] (SH L, mi, ml, MR) d Q) else (if (x5 < 10) then (X 12 37 [.ref 62, .int x1, .int (if x2 < ((xw mi 64 x5.toNatClampNeg ((mi 64 x5.toNatClampNeg) + 1)) 64 x5.toNatClampNeg) then ((xw mi 64 x5.toNatClampNeg ((mi 64 x5.toNatClampNeg) + 1)) 64 x5.toNatClampNeg) else x2), .int x3, .int (x4 + 1), .int x5] [] (SH L, (xw mi 64 x5.toNatClampNeg ((mi 64 x5.toNatClampNeg) + 1)), ml, MR) d Q) else (X 12 37 [.ref 62, .int x1, .int x2, .int x3, .int (x4 + 1), .int x5] [] (SH L, mi, ml, MR) d Q))) := by
  refine (R_if_eq (off := 41) (t := 101) (by decide +kernel) (by decide +kernel)).trans (ite_congr rfl (fun c0 => ?_) (fun c0 => ?_))
  · refine (R_iinc (k := 4) (n := 1) (x := x4) (v := (x4 + 1)) (loc' := [.ref 62, .int x1, .int x2, .int x3, .int (x4 + 1), .int x5]) (by decide +kernel) rfl rfl rfl).trans ?_
    refine (R_goto (off := (-67)) (t := 37) (by decide +kernel) (by decide +kernel)).trans ?_
    rfl
  · refine (R_pure0 (ins := .iload 5) (len := 2) (loc' := [.ref 62, .int x1, .int x2, .int x3, .int x4, .int x5]) (st' := [.int x5]) (by decide +kernel) (fun _ => rfl)).trans ?_
    refine (R_if_lt (off := 36) (t := 101) (by decide +kernel) (by decide +kernel)).trans (ite_congr rfl (fun c1 => ?_) (fun c1 => ?_))
    · refine (R_iinc (k := 4) (n := 1) (x := x4) (v := (x4 + 1)) (loc' := [.ref 62, .int x1, .int x2, .int x3, .int (x4 + 1), .int x5]) (by decide +kernel) rfl rfl rfl).trans ?_
      refine (R_goto (off := (-67)) (t := 37) (by decide +kernel) (by decide +kernel)).trans ?_
      rfl
    · refine (R_pure0 (ins := .iload 5) (len := 2) (loc' := [.ref 62, .int x1, .int x2, .int x3, .int x4, .int x5]) (st' := [.int x5]) (by decide +kernel) (fun _ => rfl)).trans ?_
      refine (R_pure0 (ins := .aload_n 0) (len := 1) (loc' := [.ref 62, .int x1, .int x2, .int x3, .int x4, .int x5]) (st' := [.ref 62, .int x5]) (by decide +kernel) (fun _ => rfl)).trans ?_
      refine (R_gr (i := 15) (ci := 1) (k := 1) (n := 2) (b := 64) (by decide +kernel) (by decide +kernel) (by decide) rfl (SH_ref (by decide +kernel))).trans ?_
      refine (R_arraylength (kd := 100) (n := 10) (by decide +kernel) rfl (by decide)).trans ?_
      show X 12 75 [.ref 62, .int x1, .int x2, .int x3, .int x4, .int x5] [.int 10, .int x5] (SH L, mi, ml, MR) _ _ = _
      refine (R_icmp_ge (off := 26) (t := 101) (by decide +kernel) (by decide +kernel)).trans (ite_congr rfl (fun c2 => ?_) (fun c2 => ?_))
      · refine (R_pure0 (ins := .aload_n 0) (len := 1) (loc' := [.ref 62, .int x1, .int x2, .int x3, .int x4, .int x5]) (st' := [.ref 62]) (by decide +kernel) (fun _ => rfl)).trans ?_
        refine (R_gr (i := 15) (ci := 1) (k := 1) (n := 2) (b := 64) (by decide +kernel) (by decide +kernel) (by decide) rfl (SH_ref (by decide +kernel))).trans ?_
        refine (R_pure0 (ins := .iload 5) (len := 2) (loc' := [.ref 62, .int x1, .int x2, .int x3, .int x4, .int x5]) (st' := [.int x5, .ref 64]) (by decide +kernel) (fun _ => rfl)).trans ?_
        refine (R_pure0 (ins := .dup2) (len := 1) (loc' := [.ref 62, .int x1, .int x2, .int x3, .int x4, .int x5]) (st' := [.int x5, .ref 64, .int x5, .ref 64]) (by decide +kernel) (fun _ => rfl)).trans ?_
        refine (R_iaload (kd := 100) (n := 10) (by decide +kernel) rfl (by decide) (h1 c0 c1 c2)).trans ?_
        refine (R_iconst (n := 1) (v := 1) (by decide +kernel) (by decide +kernel)).trans ?_
        refine (R_pure0 (ins := .iadd) (len := 1) (loc' := [.ref 62, .int x1, .int x2, .int x3, .int x4, .int x5]) (st' := [.int ((mi 64 x5.toNatClampNeg) + 1), .int x5, .ref 64]) (by decide +kernel) (fun _ => rfl)).trans ?_
        refine (R_iastore (n := 10) (by decide +kernel) rfl (h2 c0 c1 c2)).trans ?_
        refine (R_pure0 (ins := .iload_n 2) (len := 1) (loc' := [.ref 62, .int x1, .int x2, .int x3, .int x4, .int x5]) (st' := [.int x2]) (by decide +kernel) (fun _ => rfl)).trans ?_
        refine (R_pure0 (ins := .aload_n 0) (len := 1) (loc' := [.ref 62, .int x1, .int x2, .int x3, .int x4, .int x5]) (st' := [.ref 62, .int x2]) (by decide +kernel) (fun _ => rfl)).trans ?_
        refine (R_gr (i := 15) (ci := 1) (k := 1) (n := 2) (b := 64) (by decide +kernel) (by decide +kernel) (by decide) rfl (SH_ref (by decide +kernel))).trans ?_
        refine (R_pure0 (ins := .iload 5) (len := 2) (loc' := [.ref 62, .int x1, .int x2, .int x3, .int x4, .int x5]) (st' := [.int x5, .ref 64, .int x2]) (by decide +kernel) (fun _ => rfl)).trans ?_
        refine (R_iaload (kd := 100) (n := 10) (by decide +kernel) rfl (by decide) (h3 c0 c1 c2)).trans ?_
        refine (R_max (i := 45) (f := 0) (x := x2) (y := ((xw mi 64 x5.toNatClampNeg ((mi 64 x5.toNatClampNeg) + 1)) 64 x5.toNatClampNeg)) (by decide +kernel) (by decide +kernel) rfl).trans ?_
        refine (R_pure0 (ins := .istore_n 2) (len := 1) (loc' := [.ref 62, .int x1, .int (if x2 < ((xw mi 64 x5.toNatClampNeg ((mi 64 x5.toNatClampNeg) + 1)) 64 x5.toNatClampNeg) then ((xw mi 64 x5.toNatClampNeg ((mi 64 x5.toNatClampNeg) + 1)) 64 x5.toNatClampNeg) else x2), .int x3, .int x4, .int x5]) (st' := []) (by decide +kernel) (fun _ => rfl)).trans ?_
        refine (R_iinc (k := 4) (n := 1) (x := x4) (v := (x4 + 1)) (loc' := [.ref 62, .int x1, .int (if x2 < ((xw mi 64 x5.toNatClampNeg ((mi 64 x5.toNatClampNeg) + 1)) 64 x5.toNatClampNeg) then ((xw mi 64 x5.toNatClampNeg ((mi 64 x5.toNatClampNeg) + 1)) 64 x5.toNatClampNeg) else x2), .int x3, .int (x4 + 1), .int x5]) (by decide +kernel) rfl rfl rfl).trans ?_
        refine (R_goto (off := (-67)) (t := 37) (by decide +kernel) (by decide +kernel)).trans ?_
        rfl
      · refine (R_iinc (k := 4) (n := 1) (x := x4) (v := (x4 + 1)) (loc' := [.ref 62, .int x1, .int x2, .int x3, .int (x4 + 1), .int x5]) (by decide +kernel) rfl rfl rfl).trans ?_
        refine (R_goto (off := (-67)) (t := 37) (by decide +kernel) (by decide +kernel)).trans ?_
        rfl
theorem s12_37v2 {L : Nat} {mi : Nat → Nat → Int32} {ml : Nat → Nat → Int64} {d : Nat} {Q : Option Value → xM → Prop} {x1 x2 x3 x4 x5 : Int32} : X 12 37 [.ref 62, .int x1, .int x2, .int x3, .int x4, .int x5] [] (SH L, mi, ml, MR) (d + 1) Q =
    if (x4 < 10) then (Xm 48 [.int x3, .int x4, .int x1] (SH L, mi, ml, MR) d (fun v μ' => X 12 51 [.ref 62, .int x1, .int x2, .int x3, .int x4, .int x5] (v.toList ++ []) μ' (d + 1) Q)) else (X 12 28 [.ref 62, .int x1, .int x2, .int (x3 + 1), .int x4, .int x5] [] (SH L, mi, ml, MR) (d + 1) Q) := by
  refine (R_pure0 (ins := .iload 4) (len := 2) (loc' := [.ref 62, .int x1, .int x2, .int x3, .int x4, .int x5]) (st' := [.int x4]) (by decide +kernel) (fun _ => rfl)).trans ?_
  refine (R_bipush (n := 10) (v := 10) (by decide +kernel) (by decide +kernel)).trans ?_
  refine (R_icmp_ge (off := 66) (t := 107) (by decide +kernel) (by decide +kernel)).trans (ite_congr rfl (fun c0 => ?_) (fun c0 => ?_))
  · refine (R_pure0 (ins := .iload_n 3) (len := 1) (loc' := [.ref 62, .int x1, .int x2, .int x3, .int x4, .int x5]) (st' := [.int x3]) (by decide +kernel) (fun _ => rfl)).trans ?_
    refine (R_pure0 (ins := .iload 4) (len := 2) (loc' := [.ref 62, .int x1, .int x2, .int x3, .int x4, .int x5]) (st' := [.int x4, .int x3]) (by decide +kernel) (fun _ => rfl)).trans ?_
    refine (R_pure0 (ins := .iload_n 1) (len := 1) (loc' := [.ref 62, .int x1, .int x2, .int x3, .int x4, .int x5]) (st' := [.int x1, .int x4, .int x3]) (by decide +kernel) (fun _ => rfl)).trans ?_
    refine (R_static (i := 32) (f := 48) (kd := 2) (na := 3) (ml := 3) (As := [.int x3, .int x4, .int x1]) (rest := []) (by decide +kernel) (by decide +kernel) (by decide) (by decide +kernel) rfl rfl (by decide +kernel) (Nat.le_of_ble_eq_true rfl)).trans ?_
    rfl
  · refine (R_iinc (k := 3) (n := 1) (x := x3) (v := (x3 + 1)) (loc' := [.ref 62, .int x1, .int x2, .int (x3 + 1), .int x4, .int x5]) (by decide +kernel) rfl rfl rfl).trans ?_
    refine (R_goto (off := (-82)) (t := 28) (by decide +kernel) (by decide +kernel)).trans ?_
    rfl
theorem s12_51v2 {L : Nat} {mi : Nat → Nat → Int32} {ml : Nat → Nat → Int64} {d : Nat} {Q : Option Value → xM → Prop} {x1 x2 x3 x4 x5 y : Int32} : X 12 51 [.ref 62, .int x1, .int x2, .int x3, .int x4, .int x5] [.int y] (SH L, mi, ml, MR) (d + 1) Q =
    Xm 9 [.ref 62, .int x3, .int x4] (SH L, mi, ml, MR) d (fun v μ' => X 12 60 [.ref 62, .int x1, .int x2, .int x3, .int x4, .int y] (v.toList ++ []) μ' (d + 1) Q) := by
  refine (R_pure0 (ins := .istore 5) (len := 2) (loc' := [.ref 62, .int x1, .int x2, .int x3, .int x4, .int y]) (st' := []) (by decide +kernel) (fun _ => rfl)).trans ?_
  refine (R_pure0 (ins := .aload_n 0) (len := 1) (loc' := [.ref 62, .int x1, .int x2, .int x3, .int x4, .int y]) (st' := [.ref 62]) (by decide +kernel) (fun _ => rfl)).trans ?_
  refine (R_pure0 (ins := .iload_n 3) (len := 1) (loc' := [.ref 62, .int x1, .int x2, .int x3, .int x4, .int y]) (st' := [.int x3, .ref 62]) (by decide +kernel) (fun _ => rfl)).trans ?_
  refine (R_pure0 (ins := .iload 4) (len := 2) (loc' := [.ref 62, .int x1, .int x2, .int x3, .int x4, .int y]) (st' := [.int x4, .int x3, .ref 62]) (by decide +kernel) (fun _ => rfl)).trans ?_
  refine (R_virt (i := 41) (f := 9) (kd := 0) (na := 2) (ml := 3) (ci := 1) (n := 2) (b := 62) (As := [.int x3, .int x4]) (rest := []) (by decide +kernel) (by decide +kernel) (by decide) (by decide +kernel) rfl (by decide +kernel) rfl rfl (by decide +kernel) (Nat.le_of_ble_eq_true rfl)).trans ?_
  rfl
theorem s12_28v3 {L : Nat} {mi : Nat → Nat → Int32} {ml : Nat → Nat → Int64} {d : Nat} {Q : Option Value → xM → Prop} {x1 x2 x3 x4 x5 : Int32} : X 12 28 [.ref 62, .int x1, .int x2, .int x3, .int x4, .int x5] [] (SH L, mi, ml, MR) d Q =
    if (x3 < 6) then (X 12 37 [.ref 62, .int x1, .int x2, .int x3, .int 0, .int x5] [] (SH L, mi, ml, MR) d Q) else (Q (some (.int x2)) (SH L, mi, ml, MR)) := by
  refine (R_pure0 (ins := .iload_n 3) (len := 1) (loc' := [.ref 62, .int x1, .int x2, .int x3, .int x4, .int x5]) (st' := [.int x3]) (by decide +kernel) (fun _ => rfl)).trans ?_
  refine (R_bipush (n := 6) (v := 6) (by decide +kernel) (by decide +kernel)).trans ?_
  refine (R_icmp_ge (off := 82) (t := 113) (by decide +kernel) (by decide +kernel)).trans (ite_congr rfl (fun c0 => ?_) (fun c0 => ?_))
  · refine (R_iconst (n := 0) (v := 0) (by decide +kernel) (by decide +kernel)).trans ?_
    refine (R_pure0 (ins := .istore 4) (len := 2) (loc' := [.ref 62, .int x1, .int x2, .int x3, .int 0, .int x5]) (st' := []) (by decide +kernel) (fun _ => rfl)).trans ?_
    rfl
  · refine (R_pure0 (ins := .iload_n 2) (len := 1) (loc' := [.ref 62, .int x1, .int x2, .int x3, .int x4, .int x5]) (st' := [.int x2]) (by decide +kernel) (fun _ => rfl)).trans ?_
    exact R_ireturn (by decide +kernel) (by decide +kernel)
theorem s13 {L : Nat} {mi : Nat → Nat → Int32} {ml : Nat → Nat → Int64} {d : Nat} {Q : Option Value → xM → Prop} : Xm 13 [.ref 62] (SH L, mi, ml, MR) d Q =
    X 13 7 [.ref 62, .int (-9), .int 0, .int 0, xmk] [] (SH L, mi, ml, MR) d Q := by
  rw [Xm_ent (n := 5) (loc := [.ref 62, xmk, xmk, xmk, xmk]) (by decide +kernel) rfl]
  refine (R_bipush (n := (-9)) (v := (-9)) (by decide +kernel) (by decide +kernel)).trans ?_
  refine (R_pure0 (ins := .istore_n 1) (len := 1) (loc' := [.ref 62, .int (-9), xmk, xmk, xmk]) (st' := []) (by decide +kernel) (fun _ => rfl)).trans ?_
  refine (R_iconst (n := 0) (v := 0) (by decide +kernel) (by decide +kernel)).trans ?_
  refine (R_pure0 (ins := .istore_n 2) (len := 1) (loc' := [.ref 62, .int (-9), .int 0, xmk, xmk]) (st' := []) (by decide +kernel) (fun _ => rfl)).trans ?_
  refine (R_iconst (n := 0) (v := 0) (by decide +kernel) (by decide +kernel)).trans ?_
  refine (R_pure0 (ins := .istore_n 3) (len := 1) (loc' := [.ref 62, .int (-9), .int 0, .int 0, xmk]) (st' := []) (by decide +kernel) (fun _ => rfl)).trans ?_
  rfl
theorem s13_7 {L : Nat} {mi : Nat → Nat → Int32} {ml : Nat → Nat → Int64} {d : Nat} {Q : Option Value → xM → Prop} {x1 x2 x3 : Int32} : X 13 7 [.ref 62, .int x1, .int x2, .int x3, xmk] [] (SH L, mi, ml, MR) (d + 1) Q =
    if (x3 < 9) then (Xm 12 [.ref 62, .int x3] (SH L, mi, ml, MR) d (fun v μ' => X 13 18 [.ref 62, .int x1, .int x2, .int x3, xmk] (v.toList ++ []) μ' (d + 1) Q)) else (Q (some (.int x1)) (SH L, mi, ml, MR)) := by
  refine (R_pure0 (ins := .iload_n 3) (len := 1) (loc' := [.ref 62, .int x1, .int x2, .int x3, xmk]) (st' := [.int x3]) (by decide +kernel) (fun _ => rfl)).trans ?_
  refine (R_bipush (n := 9) (v := 9) (by decide +kernel) (by decide +kernel)).trans ?_
  refine (R_icmp_ge (off := 38) (t := 48) (by decide +kernel) (by decide +kernel)).trans (ite_congr rfl (fun c0 => ?_) (fun c0 => ?_))
  · refine (R_pure0 (ins := .aload_n 0) (len := 1) (loc' := [.ref 62, .int x1, .int x2, .int x3, xmk]) (st' := [.ref 62]) (by decide +kernel) (fun _ => rfl)).trans ?_
    refine (R_pure0 (ins := .iload_n 3) (len := 1) (loc' := [.ref 62, .int x1, .int x2, .int x3, xmk]) (st' := [.int x3, .ref 62]) (by decide +kernel) (fun _ => rfl)).trans ?_
    refine (R_virt (i := 51) (f := 12) (kd := 0) (na := 1) (ml := 6) (ci := 1) (n := 2) (b := 62) (As := [.int x3]) (rest := []) (by decide +kernel) (by decide +kernel) (by decide) (by decide +kernel) rfl (by decide +kernel) rfl rfl (by decide +kernel) (Nat.le_of_ble_eq_true rfl)).trans ?_
    rfl
  · refine (R_pure0 (ins := .iload_n 1) (len := 1) (loc' := [.ref 62, .int x1, .int x2, .int x3, xmk]) (st' := [.int x1]) (by decide +kernel) (fun _ => rfl)).trans ?_
    exact R_ireturn (by decide +kernel) (by decide +kernel)
theorem s13_18 {L : Nat} {mi : Nat → Nat → Int32} {ml : Nat → Nat → Int64} {d : Nat} {Q : Option Value → xM → Prop} {x1 x2 x3 y : Int32} : X 13 18 [.ref 62, .int x1, .int x2, .int x3, xmk] [.int y] (SH L, mi, ml, MR) d Q =
    if ((0 : Int32) < y) then (if (x1 = (-9)) then (X 13 7 [.ref 62, .int x3, .int y, .int (x3 + 1), .int y] [] (SH L, mi, ml, MR) d Q) else (if (y < x2) then (X 13 7 [.ref 62, .int x3, .int y, .int (x3 + 1), .int y] [] (SH L, mi, ml, MR) d Q) else (X 13 7 [.ref 62, .int x1, .int x2, .int (x3 + 1), .int y] [] (SH L, mi, ml, MR) d Q))) else (X 13 7 [.ref 62, .int x1, .int x2, .int (x3 + 1), .int y] [] (SH L, mi, ml, MR) d Q) := by
  refine (R_pure0 (ins := .istore 4) (len := 2) (loc' := [.ref 62, .int x1, .int x2, .int x3, .int y]) (st' := []) (by decide +kernel) (fun _ => rfl)).trans ?_
  refine (R_pure0 (ins := .iload 4) (len := 2) (loc' := [.ref 62, .int x1, .int x2, .int x3, .int y]) (st' := [.int y]) (by decide +kernel) (fun _ => rfl)).trans ?_
  refine (R_if_le (off := 20) (t := 42) (by decide +kernel) (by decide +kernel)).trans (ite_congr rfl (fun c0 => ?_) (fun c0 => ?_))
  · refine (R_pure0 (ins := .iload_n 1) (len := 1) (loc' := [.ref 62, .int x1, .int x2, .int x3, .int y]) (st' := [.int x1]) (by decide +kernel) (fun _ => rfl)).trans ?_
    refine (R_bipush (n := (-9)) (v := (-9)) (by decide +kernel) (by decide +kernel)).trans ?_
    refine (R_icmp_eq (off := 9) (t := 37) (by decide +kernel) (by decide +kernel)).trans (ite_congr rfl (fun c1 => ?_) (fun c1 => ?_))
    · refine (R_pure0 (ins := .iload_n 3) (len := 1) (loc' := [.ref 62, .int x1, .int x2, .int x3, .int y]) (st' := [.int x3]) (by decide +kernel) (fun _ => rfl)).trans ?_
      refine (R_pure0 (ins := .istore_n 1) (len := 1) (loc' := [.ref 62, .int x3, .int x2, .int x3, .int y]) (st' := []) (by decide +kernel) (fun _ => rfl)).trans ?_
      refine (R_pure0 (ins := .iload 4) (len := 2) (loc' := [.ref 62, .int x3, .int x2, .int x3, .int y]) (st' := [.int y]) (by decide +kernel) (fun _ => rfl)).trans ?_
      refine (R_pure0 (ins := .istore_n 2) (len := 1) (loc' := [.ref 62, .int x3, .int y, .int x3, .int y]) (st' := []) (by decide +kernel) (fun _ => rfl)).trans ?_
      refine (R_iinc (k := 3) (n := 1) (x := x3) (v := (x3 + 1)) (loc' := [.ref 62, .int x3, .int y, .int (x3 + 1), .int y]) (by decide +kernel) rfl rfl rfl).trans ?_
      refine (R_goto (off := (-38)) (t := 7) (by decide +kernel) (by decide +kernel)).trans ?_
      rfl
    · refine (R_pure0 (ins := .iload 4) (len := 2) (loc' := [.ref 62, .int x1, .int x2, .int x3, .int y]) (st' := [.int y]) (by decide +kernel) (fun _ => rfl)).trans ?_
      refine (R_pure0 (ins := .iload_n 2) (len := 1) (loc' := [.ref 62, .int x1, .int x2, .int x3, .int y]) (st' := [.int x2, .int y]) (by decide +kernel) (fun _ => rfl)).trans ?_
      refine (R_icmp_ge (off := 8) (t := 42) (by decide +kernel) (by decide +kernel)).trans (ite_congr rfl (fun c2 => ?_) (fun c2 => ?_))
      · refine (R_pure0 (ins := .iload_n 3) (len := 1) (loc' := [.ref 62, .int x1, .int x2, .int x3, .int y]) (st' := [.int x3]) (by decide +kernel) (fun _ => rfl)).trans ?_
        refine (R_pure0 (ins := .istore_n 1) (len := 1) (loc' := [.ref 62, .int x3, .int x2, .int x3, .int y]) (st' := []) (by decide +kernel) (fun _ => rfl)).trans ?_
        refine (R_pure0 (ins := .iload 4) (len := 2) (loc' := [.ref 62, .int x3, .int x2, .int x3, .int y]) (st' := [.int y]) (by decide +kernel) (fun _ => rfl)).trans ?_
        refine (R_pure0 (ins := .istore_n 2) (len := 1) (loc' := [.ref 62, .int x3, .int y, .int x3, .int y]) (st' := []) (by decide +kernel) (fun _ => rfl)).trans ?_
        refine (R_iinc (k := 3) (n := 1) (x := x3) (v := (x3 + 1)) (loc' := [.ref 62, .int x3, .int y, .int (x3 + 1), .int y]) (by decide +kernel) rfl rfl rfl).trans ?_
        refine (R_goto (off := (-38)) (t := 7) (by decide +kernel) (by decide +kernel)).trans ?_
        rfl
      · refine (R_iinc (k := 3) (n := 1) (x := x3) (v := (x3 + 1)) (loc' := [.ref 62, .int x1, .int x2, .int (x3 + 1), .int y]) (by decide +kernel) rfl rfl rfl).trans ?_
        refine (R_goto (off := (-38)) (t := 7) (by decide +kernel) (by decide +kernel)).trans ?_
        rfl
  · refine (R_iinc (k := 3) (n := 1) (x := x3) (v := (x3 + 1)) (loc' := [.ref 62, .int x1, .int x2, .int (x3 + 1), .int y]) (by decide +kernel) rfl rfl rfl).trans ?_
    refine (R_goto (off := (-38)) (t := 7) (by decide +kernel) (by decide +kernel)).trans ?_
    rfl
theorem s13_7v2 {L : Nat} {mi : Nat → Nat → Int32} {ml : Nat → Nat → Int64} {d : Nat} {Q : Option Value → xM → Prop} {x1 x2 x3 x4 : Int32} : X 13 7 [.ref 62, .int x1, .int x2, .int x3, .int x4] [] (SH L, mi, ml, MR) (d + 1) Q =
    if (x3 < 9) then (Xm 12 [.ref 62, .int x3] (SH L, mi, ml, MR) d (fun v μ' => X 13 18 [.ref 62, .int x1, .int x2, .int x3, .int x4] (v.toList ++ []) μ' (d + 1) Q)) else (Q (some (.int x1)) (SH L, mi, ml, MR)) := by
  refine (R_pure0 (ins := .iload_n 3) (len := 1) (loc' := [.ref 62, .int x1, .int x2, .int x3, .int x4]) (st' := [.int x3]) (by decide +kernel) (fun _ => rfl)).trans ?_
  refine (R_bipush (n := 9) (v := 9) (by decide +kernel) (by decide +kernel)).trans ?_
  refine (R_icmp_ge (off := 38) (t := 48) (by decide +kernel) (by decide +kernel)).trans (ite_congr rfl (fun c0 => ?_) (fun c0 => ?_))
  · refine (R_pure0 (ins := .aload_n 0) (len := 1) (loc' := [.ref 62, .int x1, .int x2, .int x3, .int x4]) (st' := [.ref 62]) (by decide +kernel) (fun _ => rfl)).trans ?_
    refine (R_pure0 (ins := .iload_n 3) (len := 1) (loc' := [.ref 62, .int x1, .int x2, .int x3, .int x4]) (st' := [.int x3, .ref 62]) (by decide +kernel) (fun _ => rfl)).trans ?_
    refine (R_virt (i := 51) (f := 12) (kd := 0) (na := 1) (ml := 6) (ci := 1) (n := 2) (b := 62) (As := [.int x3]) (rest := []) (by decide +kernel) (by decide +kernel) (by decide) (by decide +kernel) rfl (by decide +kernel) rfl rfl (by decide +kernel) (Nat.le_of_ble_eq_true rfl)).trans ?_
    rfl
  · refine (R_pure0 (ins := .iload_n 1) (len := 1) (loc' := [.ref 62, .int x1, .int x2, .int x3, .int x4]) (st' := [.int x1]) (by decide +kernel) (fun _ => rfl)).trans ?_
    exact R_ireturn (by decide +kernel) (by decide +kernel)
theorem s13_18v2 {L : Nat} {mi : Nat → Nat → Int32} {ml : Nat → Nat → Int64} {d : Nat} {Q : Option Value → xM → Prop} {x1 x2 x3 x4 y : Int32} : X 13 18 [.ref 62, .int x1, .int x2, .int x3, .int x4] [.int y] (SH L, mi, ml, MR) d Q =
    if ((0 : Int32) < y) then (if (x1 = (-9)) then (X 13 7 [.ref 62, .int x3, .int y, .int (x3 + 1), .int y] [] (SH L, mi, ml, MR) d Q) else (if (y < x2) then (X 13 7 [.ref 62, .int x3, .int y, .int (x3 + 1), .int y] [] (SH L, mi, ml, MR) d Q) else (X 13 7 [.ref 62, .int x1, .int x2, .int (x3 + 1), .int y] [] (SH L, mi, ml, MR) d Q))) else (X 13 7 [.ref 62, .int x1, .int x2, .int (x3 + 1), .int y] [] (SH L, mi, ml, MR) d Q) := by
  refine (R_pure0 (ins := .istore 4) (len := 2) (loc' := [.ref 62, .int x1, .int x2, .int x3, .int y]) (st' := []) (by decide +kernel) (fun _ => rfl)).trans ?_
  refine (R_pure0 (ins := .iload 4) (len := 2) (loc' := [.ref 62, .int x1, .int x2, .int x3, .int y]) (st' := [.int y]) (by decide +kernel) (fun _ => rfl)).trans ?_
  refine (R_if_le (off := 20) (t := 42) (by decide +kernel) (by decide +kernel)).trans (ite_congr rfl (fun c0 => ?_) (fun c0 => ?_))
  · refine (R_pure0 (ins := .iload_n 1) (len := 1) (loc' := [.ref 62, .int x1, .int x2, .int x3, .int y]) (st' := [.int x1]) (by decide +kernel) (fun _ => rfl)).trans ?_
    refine (R_bipush (n := (-9)) (v := (-9)) (by decide +kernel) (by decide +kernel)).trans ?_
    refine (R_icmp_eq (off := 9) (t := 37) (by decide +kernel) (by decide +kernel)).trans (ite_congr rfl (fun c1 => ?_) (fun c1 => ?_))
    · refine (R_pure0 (ins := .iload_n 3) (len := 1) (loc' := [.ref 62, .int x1, .int x2, .int x3, .int y]) (st' := [.int x3]) (by decide +kernel) (fun _ => rfl)).trans ?_
      refine (R_pure0 (ins := .istore_n 1) (len := 1) (loc' := [.ref 62, .int x3, .int x2, .int x3, .int y]) (st' := []) (by decide +kernel) (fun _ => rfl)).trans ?_
      refine (R_pure0 (ins := .iload 4) (len := 2) (loc' := [.ref 62, .int x3, .int x2, .int x3, .int y]) (st' := [.int y]) (by decide +kernel) (fun _ => rfl)).trans ?_
      refine (R_pure0 (ins := .istore_n 2) (len := 1) (loc' := [.ref 62, .int x3, .int y, .int x3, .int y]) (st' := []) (by decide +kernel) (fun _ => rfl)).trans ?_
      refine (R_iinc (k := 3) (n := 1) (x := x3) (v := (x3 + 1)) (loc' := [.ref 62, .int x3, .int y, .int (x3 + 1), .int y]) (by decide +kernel) rfl rfl rfl).trans ?_
      refine (R_goto (off := (-38)) (t := 7) (by decide +kernel) (by decide +kernel)).trans ?_
      rfl
    · refine (R_pure0 (ins := .iload 4) (len := 2) (loc' := [.ref 62, .int x1, .int x2, .int x3, .int y]) (st' := [.int y]) (by decide +kernel) (fun _ => rfl)).trans ?_
      refine (R_pure0 (ins := .iload_n 2) (len := 1) (loc' := [.ref 62, .int x1, .int x2, .int x3, .int y]) (st' := [.int x2, .int y]) (by decide +kernel) (fun _ => rfl)).trans ?_
      refine (R_icmp_ge (off := 8) (t := 42) (by decide +kernel) (by decide +kernel)).trans (ite_congr rfl (fun c2 => ?_) (fun c2 => ?_))
      · refine (R_pure0 (ins := .iload_n 3) (len := 1) (loc' := [.ref 62, .int x1, .int x2, .int x3, .int y]) (st' := [.int x3]) (by decide +kernel) (fun _ => rfl)).trans ?_
        refine (R_pure0 (ins := .istore_n 1) (len := 1) (loc' := [.ref 62, .int x3, .int x2, .int x3, .int y]) (st' := []) (by decide +kernel) (fun _ => rfl)).trans ?_
        refine (R_pure0 (ins := .iload 4) (len := 2) (loc' := [.ref 62, .int x3, .int x2, .int x3, .int y]) (st' := [.int y]) (by decide +kernel) (fun _ => rfl)).trans ?_
        refine (R_pure0 (ins := .istore_n 2) (len := 1) (loc' := [.ref 62, .int x3, .int y, .int x3, .int y]) (st' := []) (by decide +kernel) (fun _ => rfl)).trans ?_
        refine (R_iinc (k := 3) (n := 1) (x := x3) (v := (x3 + 1)) (loc' := [.ref 62, .int x3, .int y, .int (x3 + 1), .int y]) (by decide +kernel) rfl rfl rfl).trans ?_
        refine (R_goto (off := (-38)) (t := 7) (by decide +kernel) (by decide +kernel)).trans ?_
        rfl
      · refine (R_iinc (k := 3) (n := 1) (x := x3) (v := (x3 + 1)) (loc' := [.ref 62, .int x1, .int x2, .int (x3 + 1), .int y]) (by decide +kernel) rfl rfl rfl).trans ?_
        refine (R_goto (off := (-38)) (t := 7) (by decide +kernel) (by decide +kernel)).trans ?_
        rfl
  · refine (R_iinc (k := 3) (n := 1) (x := x3) (v := (x3 + 1)) (loc' := [.ref 62, .int x1, .int x2, .int (x3 + 1), .int y]) (by decide +kernel) rfl rfl rfl).trans ?_
    refine (R_goto (off := (-38)) (t := 7) (by decide +kernel) (by decide +kernel)).trans ?_
    rfl
