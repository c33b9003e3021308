theorem s15 {L : Nat} {mi : Nat → Nat → Int32} {ml : Nat → Nat → Int64} {d : Nat} {Q : Option Value → xM → Prop} {x1 : Int32} {rb26 : Nat} (hS_rb26 : (SH L)[rb26]? = some (4, 7)) (h1 : ¬ (x1 < 0) → (x1 < (mi 38 2)) → (x1 < 6) → xin x1 6 = true) (h2 : ¬ (x1 < 0) → (x1 < (mi 38 2)) → (x1 < 6) → MR 39 x1.toNatClampNeg = some rb26) : Xm 15 [.ref 38, .int x1] (SH L, mi, ml, MR) d Q =
    if (x1 < 0) then (Q (some .null) (SH L, mi, ml, MR)) else (if (x1 < (mi 38 2)) then (if (x1 < 6) then (Q (some (.ref rb26)) (SH L, mi, ml, MR)) else (Q (some .null) (SH L, mi, ml, MR))) else (Q (some .null) (SH L, mi, ml, MR))) := by
  rw [Xm_ent (n := 2) (loc := [.ref 38, .int x1]) (by decide +kernel) rfl]
  refine (R_pure0 (ins := .iload_n 1) (len := 1) (loc' := [.ref 38, .int x1]) (st' := [.int x1]) (by decide +kernel) (fun _ => rfl)).trans ?_
  refine (R_if_lt (off := 29) (t := 30) (by decide +kernel) (by decide +kernel)).trans (ite_congr rfl (fun c0 => ?_) (fun c0 => ?_))
  · refine (R_pure0 (ins := .aconst_null) (len := 1) (loc' := [.ref 38, .int x1]) (st' := [.null]) (by decide +kernel) (fun _ => rfl)).trans ?_
    exact R_nreturn (nm := "BeanVoices$Plant") (by decide +kernel) (by decide +kernel)
  · refine (R_pure0 (ins := .iload_n 1) (len := 1) (loc' := [.ref 38, .int x1]) (st' := [.int x1]) (by decide +kernel) (fun _ => rfl)).trans ?_
    refine (R_pure0 (ins := .aload_n 0) (len := 1) (loc' := [.ref 38, .int x1]) (st' := [.ref 38, .int x1]) (by decide +kernel) (fun _ => rfl)).trans ?_
    refine (R_gi (i := 26) (ci := 2) (k := 2) (n := 5) (by decide +kernel) (by decide +kernel) (by decide) rfl).trans ?_
    refine (R_icmp_ge (off := 21) (t := 30) (by decide +kernel) (by decide +kernel)).trans (ite_congr rfl (fun c1 => ?_) (fun c1 => ?_))
    · refine (R_pure0 (ins := .iload_n 1) (len := 1) (loc' := [.ref 38, .int x1]) (st' := [.int x1]) (by decide +kernel) (fun _ => rfl)).trans ?_
      refine (R_pure0 (ins := .aload_n 0) (len := 1) (loc' := [.ref 38, .int x1]) (st' := [.ref 38, .int x1]) (by decide +kernel) (fun _ => rfl)).trans ?_
      refine (R_gr (i := 11) (ci := 2) (k := 0) (n := 5) (b := 39) (by decide +kernel) (by decide +kernel) (by decide) rfl (SH_ref (by decide +kernel))).trans ?_
      refine (R_arraylength (kd := 104) (n := 6) (by decide +kernel) rfl (by decide)).trans ?_
      show X 15 18 [.ref 38, .int x1] [.int 6, .int x1] (SH L, mi, ml, MR) _ _ = _
      refine (R_icmp_ge (off := 12) (t := 30) (by decide +kernel) (by decide +kernel)).trans (ite_congr rfl (fun c2 => ?_) (fun c2 => ?_))
      · refine (R_pure0 (ins := .aload_n 0) (len := 1) (loc' := [.ref 38, .int x1]) (st' := [.ref 38]) (by decide +kernel) (fun _ => rfl)).trans ?_
        refine (R_gr (i := 11) (ci := 2) (k := 0) (n := 5) (b := 39) (by decide +kernel) (by decide +kernel) (by decide) rfl (SH_ref (by decide +kernel))).trans ?_
        refine (R_pure0 (ins := .iload_n 1) (len := 1) (loc' := [.ref 38, .int x1]) (st' := [.int x1, .ref 39]) (by decide +kernel) (fun _ => rfl)).trans ?_
        refine (R_aaload (kd := 104) (n := 6) (b := rb26) (by decide +kernel) rfl (by decide) (h1 c0 c1 c2) (h2 c0 c1 c2)).trans ?_
        refine (R_goto (off := 4) (t := 31) (by decide +kernel) (by decide +kernel)).trans ?_
        exact R_areturn (nm := "BeanVoices$Plant") (by decide +kernel) (by decide +kernel)
      · refine (R_pure0 (ins := .aconst_null) (len := 1) (loc' := [.ref 38, .int x1]) (st' := [.null]) (by decide +kernel) (fun _ => rfl)).trans ?_
        exact R_nreturn (nm := "BeanVoices$Plant") (by decide +kernel) (by decide +kernel)
    · refine (R_pure0 (ins := .aconst_null) (len := 1) (loc' := [.ref 38, .int x1]) (st' := [.null]) (by decide +kernel) (fun _ => rfl)).trans ?_
      exact R_nreturn (nm := "BeanVoices$Plant") (by decide +kernel) (by decide +kernel)
theorem s16 {L : Nat} {mi : Nat → Nat → Int32} {ml : Nat → Nat → Int64} {d : Nat} {Q : Option Value → xM → Prop} : Xm 16 [.ref 38] (SH L, mi, ml, MR) d Q =
    Q (some (.int (mi 38 2))) (SH L, mi, ml, MR) := by
  rw [Xm_ent (n := 1) (loc := [.ref 38]) (by decide +kernel) rfl]
  refine (R_pure0 (ins := .aload_n 0) (len := 1) (loc' := [.ref 38]) (st' := [.ref 38]) (by decide +kernel) (fun _ => rfl)).trans ?_
  refine (R_gi (i := 26) (ci := 2) (k := 2) (n := 5) (by decide +kernel) (by decide +kernel) (by decide) rfl).trans ?_
  exact R_ireturn (by decide +kernel) (by decide +kernel)
theorem s17 {L : Nat} {mi : Nat → Nat → Int32} {ml : Nat → Nat → Int64} {d : Nat} {Q : Option Value → xM → Prop} : Xm 17 [.ref 38] (SH L, mi, ml, MR) d Q =
    if ((0 : Int32) < (mi 38 2)) then (Q (some (.int 0)) (SH L, mi, ml, MR)) else (Q (some (.int 1)) (SH L, mi, ml, MR)) := by
  rw [Xm_ent (n := 1) (loc := [.ref 38]) (by decide +kernel) rfl]
  refine (R_pure0 (ins := .aload_n 0) (len := 1) (loc' := [.ref 38]) (st' := [.ref 38]) (by decide +kernel) (fun _ => rfl)).trans ?_
  refine (R_gi (i := 26) (ci := 2) (k := 2) (n := 5) (by decide +kernel) (by decide +kernel) (by decide) rfl).trans ?_
  refine (R_if_gt (off := 7) (t := 11) (by decide +kernel) (by decide +kernel)).trans (ite_congr rfl (fun c0 => ?_) (fun c0 => ?_))
  · refine (R_iconst (n := 0) (v := 0) (by decide +kernel) (by decide +kernel)).trans ?_
    exact R_zreturn (by decide +kernel) (by decide +kernel) (by decide)
  · refine (R_iconst (n := 1) (v := 1) (by decide +kernel) (by decide +kernel)).trans ?_
    refine (R_goto (off := 4) (t := 12) (by decide +kernel) (by decide +kernel)).trans ?_
    exact R_zreturn (by decide +kernel) (by decide +kernel) (by decide)
theorem s18 {L : Nat} {mi : Nat → Nat → Int32} {ml : Nat → Nat → Int64} {d : Nat} {Q : Option Value → xM → Prop} : Xm 18 [.ref 38] (SH L, mi, ml, MR) d Q =
    Q (some (.int (mi 38 3))) (SH L, mi, ml, MR) := by
  rw [Xm_ent (n := 1) (loc := [.ref 38]) (by decide +kernel) rfl]
  refine (R_pure0 (ins := .aload_n 0) (len := 1) (loc' := [.ref 38]) (st' := [.ref 38]) (by decide +kernel) (fun _ => rfl)).trans ?_
  refine (R_gi (i := 30) (ci := 2) (k := 3) (n := 5) (by decide +kernel) (by decide +kernel) (by decide) rfl).trans ?_
  exact R_ireturn (by decide +kernel) (by decide +kernel)
theorem s19 {L : Nat} {mi : Nat → Nat → Int32} {ml : Nat → Nat → Int64} {d : Nat} {Q : Option Value → xM → Prop} : Xm 19 [.ref 38] (SH L, mi, ml, MR) d Q =
    Q (some (.int (mi 38 4))) (SH L, mi, ml, MR) := by
  rw [Xm_ent (n := 1) (loc := [.ref 38]) (by decide +kernel) rfl]
  refine (R_pure0 (ins := .aload_n 0) (len := 1) (loc' := [.ref 38]) (st' := [.ref 38]) (by decide +kernel) (fun _ => rfl)).trans ?_
  refine (R_gi (i := 33) (ci := 2) (k := 4) (n := 5) (by decide +kernel) (by decide +kernel) (by decide) rfl).trans ?_
  exact R_ireturn (by decide +kernel) (by decide +kernel)
theorem s20 {L : Nat} {mi : Nat → Nat → Int32} {ml : Nat → Nat → Int64} {d : Nat} {Q : Option Value → xM → Prop} : Xm 20 [.ref 38] (SH L, mi, ml, MR) d Q =
    Q (some (.ref 40)) (SH L, mi, ml, MR) := by
  rw [Xm_ent (n := 1) (loc := [.ref 38]) (by decide +kernel) rfl]
  refine (R_pure0 (ins := .aload_n 0) (len := 1) (loc' := [.ref 38]) (st' := [.ref 38]) (by decide +kernel) (fun _ => rfl)).trans ?_
  refine (R_gr (i := 22) (ci := 2) (k := 1) (n := 5) (b := 40) (by decide +kernel) (by decide +kernel) (by decide) rfl (SH_ref (by decide +kernel))).trans ?_
  exact R_areturn (nm := "BeanVoices$Strip") (by decide +kernel) (by decide +kernel)
theorem s21 {L : Nat} {mi : Nat → Nat → Int32} {ml : Nat → Nat → Int64} {d : Nat} {Q : Option Value → xM → Prop} : Xm 21 [.ref 38, .ref 35] (SH L, mi, ml, MR) (d + 1) Q =
    Xm 66 [.ref 35] (SH L, mi, ml, MR) d (fun v μ' => X 21 5 [.ref 38, .ref 35, xmk, xmk] (v.toList ++ [.ref 38]) μ' (d + 1) Q) := by
  rw [Xm_ent (n := 4) (loc := [.ref 38, .ref 35, xmk, xmk]) (by decide +kernel) rfl]
  refine (R_pure0 (ins := .aload_n 0) (len := 1) (loc' := [.ref 38, .ref 35, xmk, xmk]) (st' := [.ref 38]) (by decide +kernel) (fun _ => rfl)).trans ?_
  refine (R_pure0 (ins := .aload_n 1) (len := 1) (loc' := [.ref 38, .ref 35, xmk, xmk]) (st' := [.ref 35, .ref 38]) (by decide +kernel) (fun _ => rfl)).trans ?_
  refine (R_virt (i := 41) (f := 66) (kd := 0) (na := 0) (ml := 1) (ci := 5) (n := 1) (b := 35) (As := []) (rest := [.ref 38]) (by decide +kernel) (by decide +kernel) (by decide) (by decide +kernel) rfl (by decide +kernel) rfl rfl (by decide +kernel) (Nat.le_of_ble_eq_true rfl)).trans ?_
  rfl
theorem s21_5 {L : Nat} {mi : Nat → Nat → Int32} {ml : Nat → Nat → Int64} {d : Nat} {Q : Option Value → xM → Prop} {y : Int32} : X 21 5 [.ref 38, .ref 35, xmk, xmk] [.int y, .ref 38] (SH L, mi, ml, MR) d Q =
    X 21 10 [.ref 38, .ref 35, .int 0, xmk] [] (SH L, (xw mi 38 2 y), ml, MR) d Q := by
  refine (R_pi (i := 26) (ci := 2) (k := 2) (n := 5) (by decide +kernel) (by decide +kernel) (by decide) rfl).trans ?_
  refine (R_iconst (n := 0) (v := 0) (by decide +kernel) (by decide +kernel)).trans ?_
  refine (R_pure0 (ins := .istore_n 2) (len := 1) (loc' := [.ref 38, .ref 35, .int 0, xmk]) (st' := []) (by decide +kernel) (fun _ => rfl)).trans ?_
  rfl
theorem s21_10 {L : Nat} {mi : Nat → Nat → Int32} {ml : Nat → Nat → Int64} {d : Nat} {Q : Option Value → xM → Prop} {x2 : Int32} : X 21 10 [.ref 38, .ref 35, .int x2, xmk] [] (SH L, mi, ml, MR) (d + 1) Q =
    if (x2 < (mi 38 2)) then (Xm 15 [.ref 38, .int x2] (SH L, mi, ml, MR) d (fun v μ' => X 21 23 [.ref 38, .ref 35, .int x2, xmk] (v.toList ++ []) μ' (d + 1) Q)) else (Xm 25 [.ref 38, .int 0] (SH L, mi, ml, MR) d (fun v μ' => X 21 45 [.ref 38, .ref 35, .int x2, xmk] (v.toList ++ []) μ' (d + 1) Q)) := by
  refine (R_pure0 (ins := .iload_n 2) (len := 1) (loc' := [.ref 38, .ref 35, .int x2, xmk]) (st' := [.int x2]) (by decide +kernel) (fun _ => rfl)).trans ?_
  refine (R_pure0 (ins := .aload_n 0) (len := 1) (loc' := [.ref 38, .ref 35, .int x2, xmk]) (st' := [.ref 38, .int x2]) (by decide +kernel) (fun _ => rfl)).trans ?_
  refine (R_gi (i := 26) (ci := 2) (k := 2) (n := 5) (by decide +kernel) (by decide +kernel) (by decide) rfl).trans ?_
  refine (R_icmp_ge (off := 25) (t := 40) (by decide +kernel) (by decide +kernel)).trans (ite_congr rfl (fun c0 => ?_) (fun c0 => ?_))
  · refine (R_pure0 (ins := .aload_n 0) (len := 1) (loc' := [.ref 38, .ref 35, .int x2, xmk]) (st' := [.ref 38]) (by decide +kernel) (fun _ => rfl)).trans ?_
    refine (R_pure0 (ins := .iload_n 2) (len := 1) (loc' := [.ref 38, .ref 35, .int x2, xmk]) (st' := [.int x2, .ref 38]) (by decide +kernel) (fun _ => rfl)).trans ?_
    refine (R_virt (i := 46) (f := 15) (kd := 0) (na := 1) (ml := 2) (ci := 2) (n := 5) (b := 38) (As := [.int x2]) (rest := []) (by decide +kernel) (by decide +kernel) (by decide) (by decide +kernel) rfl (by decide +kernel) rfl rfl (by decide +kernel) (Nat.le_of_ble_eq_true rfl)).trans ?_
    rfl
  · refine (R_pure0 (ins := .aload_n 0) (len := 1) (loc' := [.ref 38, .ref 35, .int x2, xmk]) (st' := [.ref 38]) (by decide +kernel) (fun _ => rfl)).trans ?_
    refine (R_iconst (n := 0) (v := 0) (by decide +kernel) (by decide +kernel)).trans ?_
    refine (R_virt (i := 54) (f := 25) (kd := 0) (na := 1) (ml := 2) (ci := 2) (n := 5) (b := 38) (As := [.int 0]) (rest := []) (by decide +kernel) (by decide +kernel) (by decide) (by decide +kernel) rfl (by decide +kernel) rfl rfl (by decide +kernel) (Nat.le_of_ble_eq_true rfl)).trans ?_
    rfl
theorem s21_23 {L : Nat} {mi : Nat → Nat → Int32} {ml : Nat → Nat → Int64} {d : Nat} {Q : Option Value → xM → Prop} {x2 : Int32} {ry : Nat} (hS_ry : (SH L)[ry]? = some (4, 7)) : X 21 23 [.ref 38, .ref 35, .int x2, xmk] [.ref ry] (SH L, mi, ml, MR) (d + 1) Q =
    Xm 50 [.ref ry, .ref 35, .int x2] (SH L, mi, ml, MR) d (fun v μ' => X 21 34 [.ref 38, .ref 35, .int x2, .ref ry] (v.toList ++ []) μ' (d + 1) Q) := by
  refine (R_pure0 (ins := .astore_n 3) (len := 1) (loc' := [.ref 38, .ref 35, .int x2, .ref ry]) (st' := []) (by decide +kernel) (fun _ => rfl)).trans ?_
  refine (R_pure0 (ins := .aload_n 3) (len := 1) (loc' := [.ref 38, .ref 35, .int x2, .ref ry]) (st' := [.ref ry]) (by decide +kernel) (fun _ => rfl)).trans ?_
  refine (R_ifnull_r (off := 9) (by decide +kernel)).trans ?_
  refine (R_pure0 (ins := .aload_n 3) (len := 1) (loc' := [.ref 38, .ref 35, .int x2, .ref ry]) (st' := [.ref ry]) (by decide +kernel) (fun _ => rfl)).trans ?_
  refine (R_pure0 (ins := .aload_n 1) (len := 1) (loc' := [.ref 38, .ref 35, .int x2, .ref ry]) (st' := [.ref 35, .ref ry]) (by decide +kernel) (fun _ => rfl)).trans ?_
  refine (R_pure0 (ins := .iload_n 2) (len := 1) (loc' := [.ref 38, .ref 35, .int x2, .ref ry]) (st' := [.int x2, .ref 35, .ref ry]) (by decide +kernel) (fun _ => rfl)).trans ?_
  refine (R_virt (i := 50) (f := 50) (kd := 0) (na := 2) (ml := 3) (ci := 4) (n := 7) (b := ry) (As := [.ref 35, .int x2]) (rest := []) (by decide +kernel) (by decide +kernel) (by decide) (by decide +kernel) rfl (by decide +kernel) hS_ry rfl (by decide +kernel) (Nat.le_of_ble_eq_true rfl)).trans ?_
  rfl
theorem s21_23n {L : Nat} {mi : Nat → Nat → Int32} {ml : Nat → Nat → Int64} {d : Nat} {Q : Option Value → xM → Prop} {x2 : Int32} : X 21 23 [.ref 38, .ref 35, .int x2, xmk] [.null] (SH L, mi, ml, MR) d Q =
    X 21 10 [.ref 38, .ref 35, .int (x2 + 1), .null] [] (SH L, mi, ml, MR) d Q := by
  refine (R_pure0 (ins := .astore_n 3) (len := 1) (loc' := [.ref 38, .ref 35, .int x2, .null]) (st' := []) (by decide +kernel) (fun _ => rfl)).trans ?_
  refine (R_pure0 (ins := .aload_n 3) (len := 1) (loc' := [.ref 38, .ref 35, .int x2, .null]) (st' := [.null]) (by decide +kernel) (fun _ => rfl)).trans ?_
  refine (R_ifnull_n (off := 9) (t := 34) (by decide +kernel) (by decide +kernel)).trans ?_
  refine (R_iinc (k := 2) (n := 1) (x := x2) (v := (x2 + 1)) (loc' := [.ref 38, .ref 35, .int (x2 + 1), .null]) (by decide +kernel) rfl rfl rfl).trans ?_
  refine (R_goto (off := (-27)) (t := 10) (by decide +kernel) (by decide +kernel)).trans ?_
  rfl
theorem s21_45 {L : Nat} {mi : Nat → Nat → Int32} {ml : Nat → Nat → Int64} {d : Nat} {Q : Option Value → xM → Prop} {x2 : Int32} : X 21 45 [.ref 38, .ref 35, .int x2, xmk] [] (SH L, mi, ml, MR) d Q =
    Q none (SH L, mi, ml, MR) := by
  exact R_return (by decide +kernel) (by decide +kernel)
theorem s21_34 {L : Nat} {mi : Nat → Nat → Int32} {ml : Nat → Nat → Int64} {d : Nat} {Q : Option Value → xM → Prop} {x2 : Int32} {r3 : Nat} (hS_r3 : (SH L)[r3]? = some (4, 7)) : X 21 34 [.ref 38, .ref 35, .int x2, .ref r3] [] (SH L, mi, ml, MR) d Q =
    X 21 10 [.ref 38, .ref 35, .int (x2 + 1), .ref r3] [] (SH L, mi, ml, MR) d Q := by
  refine (R_iinc (k := 2) (n := 1) (x := x2) (v := (x2 + 1)) (loc' := [.ref 38, .ref 35, .int (x2 + 1), .ref r3]) (by decide +kernel) rfl rfl rfl).trans ?_
  refine (R_goto (off := (-27)) (t := 10) (by decide +kernel) (by decide +kernel)).trans ?_
  rfl
theorem s21_10v2 {L : Nat} {mi : Nat → Nat → Int32} {ml : Nat → Nat → Int64} {d : Nat} {Q : Option Value → xM → Prop} {x2 : Int32} : X 21 10 [.ref 38, .ref 35, .int x2, .null] [] (SH L, mi, ml, MR) (d + 1) Q =
    if (x2 < (mi 38 2)) then (Xm 15 [.ref 38, .int x2] (SH L, mi, ml, MR) d (fun v μ' => X 21 23 [.ref 38, .ref 35, .int x2, .null] (v.toList ++ []) μ' (d + 1) Q)) else (Xm 25 [.ref 38, .int 0] (SH L, mi, ml, MR) d (fun v μ' => X 21 45 [.ref 38, .ref 35, .int x2, .null] (v.toList ++ []) μ' (d + 1) Q)) := by
  refine (R_pure0 (ins := .iload_n 2) (len := 1) (loc' := [.ref 38, .ref 35, .int x2, .null]) (st' := [.int x2]) (by decide +kernel) (fun _ => rfl)).trans ?_
  refine (R_pure0 (ins := .aload_n 0) (len := 1) (loc' := [.ref 38, .ref 35, .int x2, .null]) (st' := [.ref 38, .int x2]) (by decide +kernel) (fun _ => rfl)).trans ?_
  refine (R_gi (i := 26) (ci := 2) (k := 2) (n := 5) (by decide +kernel) (by decide +kernel) (by decide) rfl).trans ?_
  refine (R_icmp_ge (off := 25) (t := 40) (by decide +kernel) (by decide +kernel)).trans (ite_congr rfl (fun c0 => ?_) (fun c0 => ?_))
  · refine (R_pure0 (ins := .aload_n 0) (len := 1) (loc' := [.ref 38, .ref 35, .int x2, .null]) (st' := [.ref 38]) (by decide +kernel) (fun _ => rfl)).trans ?_
    refine (R_pure0 (ins := .iload_n 2) (len := 1) (loc' := [.ref 38, .ref 35, .int x2, .null]) (st' := [.int x2, .ref 38]) (by decide +kernel) (fun _ => rfl)).trans ?_
    refine (R_virt (i := 46) (f := 15) (kd := 0) (na := 1) (ml := 2) (ci := 2) (n := 5) (b := 38) (As := [.int x2]) (rest := []) (by decide +kernel) (by decide +kernel) (by decide) (by decide +kernel) rfl (by decide +kernel) rfl rfl (by decide +kernel) (Nat.le_of_ble_eq_true rfl)).trans ?_
    rfl
  · refine (R_pure0 (ins := .aload_n 0) (len := 1) (loc' := [.ref 38, .ref 35, .int x2, .null]) (st' := [.ref 38]) (by decide +kernel) (fun _ => rfl)).trans ?_
    refine (R_iconst (n := 0) (v := 0) (by decide +kernel) (by decide +kernel)).trans ?_
    refine (R_virt (i := 54) (f := 25) (kd := 0) (na := 1) (ml := 2) (ci := 2) (n := 5) (b := 38) (As := [.int 0]) (rest := []) (by decide +kernel) (by decide +kernel) (by decide) (by decide +kernel) rfl (by decide +kernel) rfl rfl (by decide +kernel) (Nat.le_of_ble_eq_true rfl)).trans ?_
    rfl
theorem s21_10v3 {L : Nat} {mi : Nat → Nat → Int32} {ml : Nat → Nat → Int64} {d : Nat} {Q : Option Value → xM → Prop} {x2 : Int32} {r3 : Nat} (hS_r3 : (SH L)[r3]? = some (4, 7)) : X 21 10 [.ref 38, .ref 35, .int x2, .ref r3] [] (SH L, mi, ml, MR) (d + 1) Q =
    if (x2 < (mi 38 2)) then (Xm 15 [.ref 38, .int x2] (SH L, mi, ml, MR) d (fun v μ' => X 21 23 [.ref 38, .ref 35, .int x2, .ref r3] (v.toList ++ []) μ' (d + 1) Q)) else (Xm 25 [.ref 38, .int 0] (SH L, mi, ml, MR) d (fun v μ' => X 21 45 [.ref 38, .ref 35, .int x2, .ref r3] (v.toList ++ []) μ' (d + 1) Q)) := by
  refine (R_pure0 (ins := .iload_n 2) (len := 1) (loc' := [.ref 38, .ref 35, .int x2, .ref r3]) (st' := [.int x2]) (by decide +kernel) (fun _ => rfl)).trans ?_
  refine (R_pure0 (ins := .aload_n 0) (len := 1) (loc' := [.ref 38, .ref 35, .int x2, .ref r3]) (st' := [.ref 38, .int x2]) (by decide +kernel) (fun _ => rfl)).trans ?_
  refine (R_gi (i := 26) (ci := 2) (k := 2) (n := 5) (by decide +kernel) (by decide +kernel) (by decide) rfl).trans ?_
  refine (R_icmp_ge (off := 25) (t := 40) (by decide +kernel) (by decide +kernel)).trans (ite_congr rfl (fun c0 => ?_) (fun c0 => ?_))
  · refine (R_pure0 (ins := .aload_n 0) (len := 1) (loc' := [.ref 38, .ref 35, .int x2, .ref r3]) (st' := [.ref 38]) (by decide +kernel) (fun _ => rfl)).trans ?_
    refine (R_pure0 (ins := .iload_n 2) (len := 1) (loc' := [.ref 38, .ref 35, .int x2, .ref r3]) (st' := [.int x2, .ref 38]) (by decide +kernel) (fun _ => rfl)).trans ?_
    refine (R_virt (i := 46) (f := 15) (kd := 0) (na := 1) (ml := 2) (ci := 2) (n := 5) (b := 38) (As := [.int x2]) (rest := []) (by decide +kernel) (by decide +kernel) (by decide) (by decide +kernel) rfl (by decide +kernel) rfl rfl (by decide +kernel) (Nat.le_of_ble_eq_true rfl)).trans ?_
    rfl
  · refine (R_pure0 (ins := .aload_n 0) (len := 1) (loc' := [.ref 38, .ref 35, .int x2, .ref r3]) (st' := [.ref 38]) (by decide +kernel) (fun _ => rfl)).trans ?_
    refine (R_iconst (n := 0) (v := 0) (by decide +kernel) (by decide +kernel)).trans ?_
    refine (R_virt (i := 54) (f := 25) (kd := 0) (na := 1) (ml := 2) (ci := 2) (n := 5) (b := 38) (As := [.int 0]) (rest := []) (by decide +kernel) (by decide +kernel) (by decide) (by decide +kernel) rfl (by decide +kernel) rfl rfl (by decide +kernel) (Nat.le_of_ble_eq_true rfl)).trans ?_
    rfl
theorem s21_23v2 {L : Nat} {mi : Nat → Nat → Int32} {ml : Nat → Nat → Int64} {d : Nat} {Q : Option Value → xM → Prop} {x2 : Int32} {ry : Nat} (hS_ry : (SH L)[ry]? = some (4, 7)) : X 21 23 [.ref 38, .ref 35, .int x2, .null] [.ref ry] (SH L, mi, ml, MR) (d + 1) Q =
    Xm 50 [.ref ry, .ref 35, .int x2] (SH L, mi, ml, MR) d (fun v μ' => X 21 34 [.ref 38, .ref 35, .int x2, .ref ry] (v.toList ++ []) μ' (d + 1) Q) := by
  refine (R_pure0 (ins := .astore_n 3) (len := 1) (loc' := [.ref 38, .ref 35, .int x2, .ref ry]) (st' := []) (by decide +kernel) (fun _ => rfl)).trans ?_
  refine (R_pure0 (ins := .aload_n 3) (len := 1) (loc' := [.ref 38, .ref 35, .int x2, .ref ry]) (st' := [.ref ry]) (by decide +kernel) (fun _ => rfl)).trans ?_
  refine (R_ifnull_r (off := 9) (by decide +kernel)).trans ?_
  refine (R_pure0 (ins := .aload_n 3) (len := 1) (loc' := [.ref 38, .ref 35, .int x2, .ref ry]) (st' := [.ref ry]) (by decide +kernel) (fun _ => rfl)).trans ?_
  refine (R_pure0 (ins := .aload_n 1) (len := 1) (loc' := [.ref 38, .ref 35, .int x2, .ref ry]) (st' := [.ref 35, .ref ry]) (by decide +kernel) (fun _ => rfl)).trans ?_
  refine (R_pure0 (ins := .iload_n 2) (len := 1) (loc' := [.ref 38, .ref 35, .int x2, .ref ry]) (st' := [.int x2, .ref 35, .ref ry]) (by decide +kernel) (fun _ => rfl)).trans ?_
  refine (R_virt (i := 50) (f := 50) (kd := 0) (na := 2) (ml := 3) (ci := 4) (n := 7) (b := ry) (As := [.ref 35, .int x2]) (rest := []) (by decide +kernel) (by decide +kernel) (by decide) (by decide +kernel) rfl (by decide +kernel) hS_ry rfl (by decide +kernel) (Nat.le_of_ble_eq_true rfl)).trans ?_
  rfl
theorem s21_23nv2 {L : Nat} {mi : Nat → Nat → Int32} {ml : Nat → Nat → Int64} {d : Nat} {Q : Option Value → xM → Prop} {x2 : Int32} : X 21 23 [.ref 38, .ref 35, .int x2, .null] [.null] (SH L, mi, ml, MR) d Q =
    X 21 10 [.ref 38, .ref 35, .int (x2 + 1), .null] [] (SH L, mi, ml, MR) d Q := by
  refine (R_pure0 (ins := .astore_n 3) (len := 1) (loc' := [.ref 38, .ref 35, .int x2, .null]) (st' := []) (by decide +kernel) (fun _ => rfl)).trans ?_
  refine (R_pure0 (ins := .aload_n 3) (len := 1) (loc' := [.ref 38, .ref 35, .int x2, .null]) (st' := [.null]) (by decide +kernel) (fun _ => rfl)).trans ?_
  refine (R_ifnull_n (off := 9) (t := 34) (by decide +kernel) (by decide +kernel)).trans ?_
  refine (R_iinc (k := 2) (n := 1) (x := x2) (v := (x2 + 1)) (loc' := [.ref 38, .ref 35, .int (x2 + 1), .null]) (by decide +kernel) rfl rfl rfl).trans ?_
  refine (R_goto (off := (-27)) (t := 10) (by decide +kernel) (by decide +kernel)).trans ?_
  rfl
theorem s21_45v2 {L : Nat} {mi : Nat → Nat → Int32} {ml : Nat → Nat → Int64} {d : Nat} {Q : Option Value → xM → Prop} {x2 : Int32} : X 21 45 [.ref 38, .ref 35, .int x2, .null] [] (SH L, mi, ml, MR) d Q =
    Q none (SH L, mi, ml, MR) := by
  exact R_return (by decide +kernel) (by decide +kernel)
theorem s21_23v3 {L : Nat} {mi : Nat → Nat → Int32} {ml : Nat → Nat → Int64} {d : Nat} {Q : Option Value → xM → Prop} {x2 : Int32} {r3 ry : Nat} (hS_r3 : (SH L)[r3]? = some (4, 7)) (hS_ry : (SH L)[ry]? = some (4, 7)) : X 21 23 [.ref 38, .ref 35, .int x2, .ref r3] [.ref ry] (SH L, mi, ml, MR) (d + 1) Q =
    Xm 50 [.ref ry, .ref 35, .int x2] (SH L, mi, ml, MR) d (fun v μ' => X 21 34 [.ref 38, .ref 35, .int x2, .ref ry] (v.toList ++ []) μ' (d + 1) Q) := by
  refine (R_pure0 (ins := .astore_n 3) (len := 1) (loc' := [.ref 38, .ref 35, .int x2, .ref ry]) (st' := []) (by decide +kernel) (fun _ => rfl)).trans ?_
  refine (R_pure0 (ins := .aload_n 3) (len := 1) (loc' := [.ref 38, .ref 35, .int x2, .ref ry]) (st' := [.ref ry]) (by decide +kernel) (fun _ => rfl)).trans ?_
  refine (R_ifnull_r (off := 9) (by decide +kernel)).trans ?_
  refine (R_pure0 (ins := .aload_n 3) (len := 1) (loc' := [.ref 38, .ref 35, .int x2, .ref ry]) (st' := [.ref ry]) (by decide +kernel) (fun _ => rfl)).trans ?_
  refine (R_pure0 (ins := .aload_n 1) (len := 1) (loc' := [.ref 38, .ref 35, .int x2, .ref ry]) (st' := [.ref 35, .ref ry]) (by decide +kernel) (fun _ => rfl)).trans ?_
  refine (R_pure0 (ins := .iload_n 2) (len := 1) (loc' := [.ref 38, .ref 35, .int x2, .ref ry]) (st' := [.int x2, .ref 35, .ref ry]) (by decide +kernel) (fun _ => rfl)).trans ?_
  refine (R_virt (i := 50) (f := 50) (kd := 0) (na := 2) (ml := 3) (ci := 4) (n := 7) (b := ry) (As := [.ref 35, .int x2]) (rest := []) (by decide +kernel) (by decide +kernel) (by decide) (by decide +kernel) rfl (by decide +kernel) hS_ry rfl (by decide +kernel) (Nat.le_of_ble_eq_true rfl)).trans ?_
  rfl
theorem s21_23nv3 {L : Nat} {mi : Nat → Nat → Int32} {ml : Nat → Nat → Int64} {d : Nat} {Q : Option Value → xM → Prop} {x2 : Int32} {r3 : Nat} (hS_r3 : (SH L)[r3]? = some (4, 7)) : X 21 23 [.ref 38, .ref 35, .int x2, .ref r3] [.null] (SH L, mi, ml, MR) d Q =
    X 21 10 [.ref 38, .ref 35, .int (x2 + 1), .null] [] (SH L, mi, ml, MR) d Q := by
  refine (R_pure0 (ins := .astore_n 3) (len := 1) (loc' := [.ref 38, .ref 35, .int x2, .null]) (st' := []) (by decide +kernel) (fun _ => rfl)).trans ?_
  refine (R_pure0 (ins := .aload_n 3) (len := 1) (loc' := [.ref 38, .ref 35, .int x2, .null]) (st' := [.null]) (by decide +kernel) (fun _ => rfl)).trans ?_
  refine (R_ifnull_n (off := 9) (t := 34) (by decide +kernel) (by decide +kernel)).trans ?_
  refine (R_iinc (k := 2) (n := 1) (x := x2) (v := (x2 + 1)) (loc' := [.ref 38, .ref 35, .int (x2 + 1), .null]) (by decide +kernel) rfl rfl rfl).trans ?_
  refine (R_goto (off := (-27)) (t := 10) (by decide +kernel) (by decide +kernel)).trans ?_
  rfl
theorem s21_45v3 {L : Nat} {mi : Nat → Nat → Int32} {ml : Nat → Nat → Int64} {d : Nat} {Q : Option Value → xM → Prop} {x2 : Int32} {r3 : Nat} (hS_r3 : (SH L)[r3]? = some (4, 7)) : X 21 45 [.ref 38, .ref 35, .int x2, .ref r3] [] (SH L, mi, ml, MR) d Q =
    Q none (SH L, mi, ml, MR) := by
  exact R_return (by decide +kernel) (by decide +kernel)
theorem s22 {L : Nat} {mi : Nat → Nat → Int32} {ml : Nat → Nat → Int64} {d : Nat} {Q : Option Value → xM → Prop} {x1 : Int32} : Xm 22 [.ref 38, .int x1] (SH L, mi, ml, MR) (d + 1) Q =
    Xm 88 [.ref 40] (SH L, mi, ml, MR) d (fun v μ' => X 22 7 [.ref 38, .int x1] (v.toList ++ []) μ' (d + 1) Q) := by
  rw [Xm_ent (n := 2) (loc := [.ref 38, .int x1]) (by decide +kernel) rfl]
  refine (R_pure0 (ins := .aload_n 0) (len := 1) (loc' := [.ref 38, .int x1]) (st' := [.ref 38]) (by decide +kernel) (fun _ => rfl)).trans ?_
  refine (R_gr (i := 22) (ci := 2) (k := 1) (n := 5) (b := 40) (by decide +kernel) (by decide +kernel) (by decide) rfl (SH_ref (by decide +kernel))).trans ?_
  refine (R_virt (i := 57) (f := 88) (kd := 0) (na := 0) (ml := 1) (ci := 8) (n := 2) (b := 40) (As := []) (rest := []) (by decide +kernel) (by decide +kernel) (by decide) (by decide +kernel) rfl (by decide +kernel) rfl rfl (by decide +kernel) (Nat.le_of_ble_eq_true rfl)).trans ?_
  rfl
theorem s22_7 {L : Nat} {mi : Nat → Nat → Int32} {ml : Nat → Nat → Int64} {d : Nat} {Q : Option Value → xM → Prop} {x1 y : Int32} : X 22 7 [.ref 38, .int x1] [.int y] (SH L, mi, ml, MR) d Q =
    if ((40 : Int32) < (y + x1)) then (Q (some (.int 1)) (SH L, mi, ml, MR)) else (Q (some (.int 0)) (SH L, mi, ml, MR)) := by
  refine (R_pure0 (ins := .iload_n 1) (len := 1) (loc' := [.ref 38, .int x1]) (st' := [.int x1, .int y]) (by decide +kernel) (fun _ => rfl)).trans ?_
  refine (R_pure0 (ins := .iadd) (len := 1) (loc' := [.ref 38, .int x1]) (st' := [.int (y + x1)]) (by decide +kernel) (fun _ => rfl)).trans ?_
  refine (R_bipush (n := 40) (v := 40) (by decide +kernel) (by decide +kernel)).trans ?_
  refine (R_icmp_le (off := 7) (t := 18) (by decide +kernel) (by decide +kernel)).trans (ite_congr rfl (fun c0 => ?_) (fun c0 => ?_))
  · refine (R_iconst (n := 1) (v := 1) (by decide +kernel) (by decide +kernel)).trans ?_
    refine (R_goto (off := 4) (t := 19) (by decide +kernel) (by decide +kernel)).trans ?_
    exact R_zreturn (by decide +kernel) (by decide +kernel) (by decide)
  · refine (R_iconst (n := 0) (v := 0) (by decide +kernel) (by decide +kernel)).trans ?_
    exact R_zreturn (by decide +kernel) (by decide +kernel) (by decide)
theorem s23 {L : Nat} {mi : Nat → Nat → Int32} {ml : Nat → Nat → Int64} {d : Nat} {Q : Option Value → xM → Prop} {x1 x2 : Int32} : Xm 23 [.ref 38, .int x1, .int x2] (SH L, mi, ml, MR) (d + 1) Q =
    Xm 93 [.ref 40, .int ((x1 * 10) + x2)] (SH L, mi, ml, MR) d (fun v μ' => X 23 13 [.ref 38, .int x1, .int x2] (v.toList ++ []) μ' (d + 1) Q) := by
  rw [Xm_ent (n := 3) (loc := [.ref 38, .int x1, .int x2]) (by decide +kernel) rfl]
  refine (R_pure0 (ins := .aload_n 0) (len := 1) (loc' := [.ref 38, .int x1, .int x2]) (st' := [.ref 38]) (by decide +kernel) (fun _ => rfl)).trans ?_
  refine (R_gr (i := 22) (ci := 2) (k := 1) (n := 5) (b := 40) (by decide +kernel) (by decide +kernel) (by decide) rfl (SH_ref (by decide +kernel))).trans ?_
  refine (R_pure0 (ins := .iload_n 1) (len := 1) (loc' := [.ref 38, .int x1, .int x2]) (st' := [.int x1, .ref 40]) (by decide +kernel) (fun _ => rfl)).trans ?_
  refine (R_bipush (n := 10) (v := 10) (by decide +kernel) (by decide +kernel)).trans ?_
  refine (R_pure0 (ins := .imul) (len := 1) (loc' := [.ref 38, .int x1, .int x2]) (st' := [.int (x1 * 10), .ref 40]) (by decide +kernel) (fun _ => rfl)).trans ?_
  refine (R_pure0 (ins := .iload_n 2) (len := 1) (loc' := [.ref 38, .int x1, .int x2]) (st' := [.int x2, .int (x1 * 10), .ref 40]) (by decide +kernel) (fun _ => rfl)).trans ?_
  refine (R_pure0 (ins := .iadd) (len := 1) (loc' := [.ref 38, .int x1, .int x2]) (st' := [.int ((x1 * 10) + x2), .ref 40]) (by decide +kernel) (fun _ => rfl)).trans ?_
  refine (R_virt (i := 59) (f := 93) (kd := 0) (na := 1) (ml := 2) (ci := 8) (n := 2) (b := 40) (As := [.int ((x1 * 10) + x2)]) (rest := []) (by decide +kernel) (by decide +kernel) (by decide) (by decide +kernel) rfl (by decide +kernel) rfl rfl (by decide +kernel) (Nat.le_of_ble_eq_true rfl)).trans ?_
  rfl
theorem s23_13 {L : Nat} {mi : Nat → Nat → Int32} {ml : Nat → Nat → Int64} {d : Nat} {Q : Option Value → xM → Prop} {x1 x2 : Int32} : X 23 13 [.ref 38, .int x1, .int x2] [] (SH L, mi, ml, MR) (d + 1) Q =
    Xm 15 [.ref 38, .int x2] (SH L, mi, ml, MR) d (fun v μ' => X 23 20 [.ref 38, .int x1, .int x2] (v.toList ++ [.int x1, .ref 38]) μ' (d + 1) Q) := by
  refine (R_pure0 (ins := .aload_n 0) (len := 1) (loc' := [.ref 38, .int x1, .int x2]) (st' := [.ref 38]) (by decide +kernel) (fun _ => rfl)).trans ?_
  refine (R_pure0 (ins := .iload_n 1) (len := 1) (loc' := [.ref 38, .int x1, .int x2]) (st' := [.int x1, .ref 38]) (by decide +kernel) (fun _ => rfl)).trans ?_
  refine (R_pure0 (ins := .aload_n 0) (len := 1) (loc' := [.ref 38, .int x1, .int x2]) (st' := [.ref 38, .int x1, .ref 38]) (by decide +kernel) (fun _ => rfl)).trans ?_
  refine (R_pure0 (ins := .iload_n 2) (len := 1) (loc' := [.ref 38, .int x1, .int x2]) (st' := [.int x2, .ref 38, .int x1, .ref 38]) (by decide +kernel) (fun _ => rfl)).trans ?_
  refine (R_virt (i := 46) (f := 15) (kd := 0) (na := 1) (ml := 2) (ci := 2) (n := 5) (b := 38) (As := [.int x2]) (rest := [.int x1, .ref 38]) (by decide +kernel) (by decide +kernel) (by decide) (by decide +kernel) rfl (by decide +kernel) rfl rfl (by decide +kernel) (Nat.le_of_ble_eq_true rfl)).trans ?_
  rfl
theorem s23_20 {L : Nat} {mi : Nat → Nat → Int32} {ml : Nat → Nat → Int64} {d : Nat} {Q : Option Value → xM → Prop} {x1 x2 z0 : Int32} {ry : Nat} (hS_ry : (SH L)[ry]? = some (4, 7)) : X 23 20 [.ref 38, .int x1, .int x2] [.ref ry, .int z0, .ref 38] (SH L, mi, ml, MR) (d + 1) Q =
    Xm 24 [.ref 38, .int z0, .ref ry] (SH L, mi, ml, MR) d (fun v μ' => X 23 23 [.ref 38, .int x1, .int x2] (v.toList ++ []) μ' (d + 1) Q) := by
  refine (R_virt (i := 62) (f := 24) (kd := 0) (na := 2) (ml := 3) (ci := 2) (n := 5) (b := 38) (As := [.int z0, .ref ry]) (rest := []) (by decide +kernel) (by decide +kernel) (by decide) (by decide +kernel) rfl (by decide +kernel) rfl rfl (by decide +kernel) (Nat.le_of_ble_eq_true rfl)).trans ?_
  rfl
theorem s23_20n {L : Nat} {mi : Nat → Nat → Int32} {ml : Nat → Nat → Int64} {d : Nat} {Q : Option Value → xM → Prop} {x1 x2 z0 : Int32} : X 23 20 [.ref 38, .int x1, .int x2] [.null, .int z0, .ref 38] (SH L, mi, ml, MR) (d + 1) Q =
    Xm 24 [.ref 38, .int z0, .null] (SH L, mi, ml, MR) d (fun v μ' => X 23 23 [.ref 38, .int x1, .int x2] (v.toList ++ []) μ' (d + 1) Q) := by
  refine (R_virt (i := 62) (f := 24) (kd := 0) (na := 2) (ml := 3) (ci := 2) (n := 5) (b := 38) (As := [.int z0, .null]) (rest := []) (by decide +kernel) (by decide +kernel) (by decide) (by decide +kernel) rfl (by decide +kernel) rfl rfl (by decide +kernel) (Nat.le_of_ble_eq_true rfl)).trans ?_
  rfl
theorem s23_23 {L : Nat} {mi : Nat → Nat → Int32} {ml : Nat → Nat → Int64} {d : Nat} {Q : Option Value → xM → Prop} {x1 x2 : Int32} : X 23 23 [.ref 38, .int x1, .int x2] [] (SH L, mi, ml, MR) d Q =
    Q none (SH L, mi, ml, MR) := by
  exact R_return (by decide +kernel) (by decide +kernel)
theorem s24 {L : Nat} {mi : Nat → Nat → Int32} {ml : Nat → Nat → Int64} {d : Nat} {Q : Option Value → xM → Prop} {x1 : Int32} {r2 : Nat} (hS_r2 : (SH L)[r2]? = some (4, 7)) : Xm 24 [.ref 38, .int x1, .ref r2] (SH L, mi, ml, MR) (d + 1) Q =
    if (x1 = 0) then (Q none (SH L, (xw mi 38 3 ((mi 38 3) + 1)), ml, MR)) else (if (x1 = 1) then (Q none (SH L, (xw mi r2 4 ((mi r2 4) + 1)), ml, MR)) else (if (x1 = 2) then (Xm 53 [.ref r2, .int (mi r2 5)] (SH L, mi, ml, MR) d (fun v μ' => X 24 67 [.ref 38, .int x1, .ref r2] (v.toList ++ [.ref 38]) μ' (d + 1) Q)) else (Q none (SH L, (xw mi r2 6 1), ml, MR)))) := by
  rw [Xm_ent (n := 3) (loc := [.ref 38, .int x1, .ref r2]) (by decide +kernel) rfl]
  refine (R_pure0 (ins := .aload_n 2) (len := 1) (loc' := [.ref 38, .int x1, .ref r2]) (st' := [.ref r2]) (by decide +kernel) (fun _ => rfl)).trans ?_
  refine (R_ifnonnull_r (off := 4) (t := 5) (by decide +kernel) (by decide +kernel)).trans ?_
  refine (R_pure0 (ins := .iload_n 1) (len := 1) (loc' := [.ref 38, .int x1, .ref r2]) (st' := [.int x1]) (by decide +kernel) (fun _ => rfl)).trans ?_
  refine (R_switch (df := 77) (lo := 0) (hi := 2) (offs := #[26, 39, 52]) (len := 26) (l0 := 0) (dt := 83) (ts := [32, 45, 58]) (by decide +kernel) (by decide +kernel)).trans ?_
  refine ite_congr rfl (fun c0 => ?_) (fun c0 => ?_)
  · refine (R_pure0 (ins := .aload_n 0) (len := 1) (loc' := [.ref 38, .int x1, .ref r2]) (st' := [.ref 38]) (by decide +kernel) (fun _ => rfl)).trans ?_
    refine (R_pure0 (ins := .dup) (len := 1) (loc' := [.ref 38, .int x1, .ref r2]) (st' := [.ref 38, .ref 38]) (by decide +kernel) (fun _ => rfl)).trans ?_
    refine (R_gi (i := 30) (ci := 2) (k := 3) (n := 5) (by decide +kernel) (by decide +kernel) (by decide) rfl).trans ?_
    refine (R_iconst (n := 1) (v := 1) (by decide +kernel) (by decide +kernel)).trans ?_
    refine (R_pure0 (ins := .iadd) (len := 1) (loc' := [.ref 38, .int x1, .ref r2]) (st' := [.int ((mi 38 3) + 1), .ref 38]) (by decide +kernel) (fun _ => rfl)).trans ?_
    refine (R_pi (i := 30) (ci := 2) (k := 3) (n := 5) (by decide +kernel) (by decide +kernel) (by decide) rfl).trans ?_
    refine (R_goto (off := 46) (t := 88) (by decide +kernel) (by decide +kernel)).trans ?_
    exact R_return (by decide +kernel) (by decide +kernel)
  · refine ite_congr rfl (fun c1 => ?_) (fun c1 => ?_)
    · refine (R_pure0 (ins := .aload_n 2) (len := 1) (loc' := [.ref 38, .int x1, .ref r2]) (st' := [.ref r2]) (by decide +kernel) (fun _ => rfl)).trans ?_
      refine (R_pure0 (ins := .dup) (len := 1) (loc' := [.ref 38, .int x1, .ref r2]) (st' := [.ref r2, .ref r2]) (by decide +kernel) (fun _ => rfl)).trans ?_
      refine (R_gi (i := 66) (ci := 4) (k := 4) (n := 7) (by decide +kernel) (by decide +kernel) (by decide) hS_r2).trans ?_
      refine (R_iconst (n := 1) (v := 1) (by decide +kernel) (by decide +kernel)).trans ?_
      refine (R_pure0 (ins := .iadd) (len := 1) (loc' := [.ref 38, .int x1, .ref r2]) (st' := [.int ((mi r2 4) + 1), .ref r2]) (by decide +kernel) (fun _ => rfl)).trans ?_
      refine (R_pi (i := 66) (ci := 4) (k := 4) (n := 7) (by decide +kernel) (by decide +kernel) (by decide) hS_r2).trans ?_
      refine (R_goto (off := 33) (t := 88) (by decide +kernel) (by decide +kernel)).trans ?_
      exact R_return (by decide +kernel) (by decide +kernel)
    · refine ite_congr rfl (fun c2 => ?_) (fun c2 => ?_)
      · refine (R_pure0 (ins := .aload_n 0) (len := 1) (loc' := [.ref 38, .int x1, .ref r2]) (st' := [.ref 38]) (by decide +kernel) (fun _ => rfl)).trans ?_
        refine (R_pure0 (ins := .aload_n 2) (len := 1) (loc' := [.ref 38, .int x1, .ref r2]) (st' := [.ref r2, .ref 38]) (by decide +kernel) (fun _ => rfl)).trans ?_
        refine (R_pure0 (ins := .aload_n 2) (len := 1) (loc' := [.ref 38, .int x1, .ref r2]) (st' := [.ref r2, .ref r2, .ref 38]) (by decide +kernel) (fun _ => rfl)).trans ?_
        refine (R_gi (i := 69) (ci := 4) (k := 5) (n := 7) (by decide +kernel) (by decide +kernel) (by decide) hS_r2).trans ?_
        refine (R_virt (i := 72) (f := 53) (kd := 0) (na := 1) (ml := 2) (ci := 4) (n := 7) (b := r2) (As := [.int (mi r2 5)]) (rest := [.ref 38]) (by decide +kernel) (by decide +kernel) (by decide) (by decide +kernel) rfl (by decide +kernel) hS_r2 rfl (by decide +kernel) (Nat.le_of_ble_eq_true rfl)).trans ?_
        rfl
      · refine (R_pure0 (ins := .aload_n 2) (len := 1) (loc' := [.ref 38, .int x1, .ref r2]) (st' := [.ref r2]) (by decide +kernel) (fun _ => rfl)).trans ?_
        refine (R_iconst (n := 1) (v := 1) (by decide +kernel) (by decide +kernel)).trans ?_
        refine (R_pz (i := 76) (ci := 4) (k := 6) (n := 7) (by decide +kernel) (by decide +kernel) (by decide) (by decide) hS_r2).trans ?_
        exact R_return (by decide +kernel) (by decide +kernel)
theorem s24n {L : Nat} {mi : Nat → Nat → Int32} {ml : Nat → Nat → Int64} {d : Nat} {Q : Option Value → xM → Prop} {x1 : Int32} : Xm 24 [.ref 38, .int x1, .null] (SH L, mi, ml, MR) d Q =
    Q none (SH L, mi, ml, MR) := by
  rw [Xm_ent (n := 3) (loc := [.ref 38, .int x1, .null]) (by decide +kernel) rfl]
  refine (R_pure0 (ins := .aload_n 2) (len := 1) (loc' := [.ref 38, .int x1, .null]) (st' := [.null]) (by decide +kernel) (fun _ => rfl)).trans ?_
  refine (R_ifnonnull_n (off := 4) (by decide +kernel)).trans ?_
  exact R_return (by decide +kernel) (by decide +kernel)
theorem s24_67 {L : Nat} {mi : Nat → Nat → Int32} {ml : Nat → Nat → Int64} {d : Nat} {Q : Option Value → xM → Prop} {x1 y : Int32} {r2 : Nat} (hS_r2 : (SH L)[r2]? = some (4, 7)) : X 24 67 [.ref 38, .int x1, .ref r2] [.int y, .ref 38] (SH L, mi, ml, MR) d Q =
    Q none (SH L, (xw (xw mi 38 4 y) r2 5 (((xw mi 38 4 y) r2 5) + 1)), ml, MR) := by
  refine (R_pi (i := 33) (ci := 2) (k := 4) (n := 5) (by decide +kernel) (by decide +kernel) (by decide) rfl).trans ?_
  refine (R_pure0 (ins := .aload_n 2) (len := 1) (loc' := [.ref 38, .int x1, .ref r2]) (st' := [.ref r2]) (by decide +kernel) (fun _ => rfl)).trans ?_
  refine (R_pure0 (ins := .dup) (len := 1) (loc' := [.ref 38, .int x1, .ref r2]) (st' := [.ref r2, .ref r2]) (by decide +kernel) (fun _ => rfl)).trans ?_
  refine (R_gi (i := 69) (ci := 4) (k := 5) (n := 7) (by decide +kernel) (by decide +kernel) (by decide) hS_r2).trans ?_
  refine (R_iconst (n := 1) (v := 1) (by decide +kernel) (by decide +kernel)).trans ?_
  refine (R_pure0 (ins := .iadd) (len := 1) (loc' := [.ref 38, .int x1, .ref r2]) (st' := [.int (((xw mi 38 4 y) r2 5) + 1), .ref r2]) (by decide +kernel) (fun _ => rfl)).trans ?_
  refine (R_pi (i := 69) (ci := 4) (k := 5) (n := 7) (by decide +kernel) (by decide +kernel) (by decide) hS_r2).trans ?_
  refine (R_goto (off := 8) (t := 88) (by decide +kernel) (by decide +kernel)).trans ?_
  exact R_return (by decide +kernel) (by decide +kernel)
theorem s25 {L : Nat} {mi : Nat → Nat → Int32} {ml : Nat → Nat → Int64} {d : Nat} {Q : Option Value → xM → Prop} {x1 : Int32} : Xm 25 [.ref 38, .int x1] (SH L, mi, ml, MR) (d + 1) Q =
    Xm 94 [.ref 40, .int x1] (SH L, mi, ml, MR) d (fun v μ' => X 25 8 [.ref 38, .int x1] (v.toList ++ []) μ' (d + 1) Q) := by
  rw [Xm_ent (n := 2) (loc := [.ref 38, .int x1]) (by decide +kernel) rfl]
  refine (R_pure0 (ins := .aload_n 0) (len := 1) (loc' := [.ref 38, .int x1]) (st' := [.ref 38]) (by decide +kernel) (fun _ => rfl)).trans ?_
  refine (R_gr (i := 22) (ci := 2) (k := 1) (n := 5) (b := 40) (by decide +kernel) (by decide +kernel) (by decide) rfl (SH_ref (by decide +kernel))).trans ?_
  refine (R_pure0 (ins := .iload_n 1) (len := 1) (loc' := [.ref 38, .int x1]) (st' := [.int x1, .ref 40]) (by decide +kernel) (fun _ => rfl)).trans ?_
  refine (R_virt (i := 80) (f := 94) (kd := 0) (na := 1) (ml := 2) (ci := 8) (n := 2) (b := 40) (As := [.int x1]) (rest := []) (by decide +kernel) (by decide +kernel) (by decide) (by decide +kernel) rfl (by decide +kernel) rfl rfl (by decide +kernel) (Nat.le_of_ble_eq_true rfl)).trans ?_
  rfl
theorem s25_8 {L : Nat} {mi : Nat → Nat → Int32} {ml : Nat → Nat → Int64} {d : Nat} {Q : Option Value → xM → Prop} {x1 : Int32} : X 25 8 [.ref 38, .int x1] [] (SH L, mi, ml, MR) (d + 1) Q =
    Xm 27 [.ref 38] (SH L, mi, ml, MR) d (fun v μ' => X 25 12 [.ref 38, .int x1] (v.toList ++ []) μ' (d + 1) Q) := by
  refine (R_pure0 (ins := .aload_n 0) (len := 1) (loc' := [.ref 38, .int x1]) (st' := [.ref 38]) (by decide +kernel) (fun _ => rfl)).trans ?_
  refine (R_virt (i := 83) (f := 27) (kd := 0) (na := 0) (ml := 3) (ci := 2) (n := 5) (b := 38) (As := []) (rest := []) (by decide +kernel) (by decide +kernel) (by decide) (by decide +kernel) rfl (by decide +kernel) rfl rfl (by decide +kernel) (Nat.le_of_ble_eq_true rfl)).trans ?_
  rfl
theorem s25_12 {L : Nat} {mi : Nat → Nat → Int32} {ml : Nat → Nat → Int64} {d : Nat} {Q : Option Value → xM → Prop} {x1 : Int32} : X 25 12 [.ref 38, .int x1] [] (SH L, mi, ml, MR) d Q =
    Q none (SH L, mi, ml, MR) := by
  exact R_return (by decide +kernel) (by decide +kernel)
theorem s26 {L : Nat} {mi : Nat → Nat → Int32} {ml : Nat → Nat → Int64} {d : Nat} {Q : Option Value → xM → Prop} {r1 : Nat} {n_r1 : Nat} (hS_r1 : isStrip L r1 n_r1) : Xm 26 [.ref 38, .ref r1] (SH L, mi, ml, MR) (d + 1) Q =
    Xm 97 [.ref 40, .ref r1] (SH L, mi, ml, MR) d (fun v μ' => X 26 8 [.ref 38, .ref r1] (v.toList ++ []) μ' (d + 1) Q) := by
  rw [Xm_ent (n := 2) (loc := [.ref 38, .ref r1]) (by decide +kernel) rfl]
  refine (R_pure0 (ins := .aload_n 0) (len := 1) (loc' := [.ref 38, .ref r1]) (st' := [.ref 38]) (by decide +kernel) (fun _ => rfl)).trans ?_
  refine (R_gr (i := 22) (ci := 2) (k := 1) (n := 5) (b := 40) (by decide +kernel) (by decide +kernel) (by decide) rfl (SH_ref (by decide +kernel))).trans ?_
  refine (R_pure0 (ins := .aload_n 1) (len := 1) (loc' := [.ref 38, .ref r1]) (st' := [.ref r1, .ref 40]) (by decide +kernel) (fun _ => rfl)).trans ?_
  refine (R_virt (i := 86) (f := 97) (kd := 0) (na := 1) (ml := 2) (ci := 8) (n := 2) (b := 40) (As := [.ref r1]) (rest := []) (by decide +kernel) (by decide +kernel) (by decide) (by decide +kernel) rfl (by decide +kernel) rfl rfl (by decide +kernel) (Nat.le_of_ble_eq_true rfl)).trans ?_
  rfl
theorem s26n {L : Nat} {mi : Nat → Nat → Int32} {ml : Nat → Nat → Int64} {d : Nat} {Q : Option Value → xM → Prop} : Xm 26 [.ref 38, .null] (SH L, mi, ml, MR) (d + 1) Q =
    Xm 97 [.ref 40, .null] (SH L, mi, ml, MR) d (fun v μ' => X 26 8 [.ref 38, .null] (v.toList ++ []) μ' (d + 1) Q) := by
  rw [Xm_ent (n := 2) (loc := [.ref 38, .null]) (by decide +kernel) rfl]
  refine (R_pure0 (ins := .aload_n 0) (len := 1) (loc' := [.ref 38, .null]) (st' := [.ref 38]) (by decide +kernel) (fun _ => rfl)).trans ?_
  refine (R_gr (i := 22) (ci := 2) (k := 1) (n := 5) (b := 40) (by decide +kernel) (by decide +kernel) (by decide) rfl (SH_ref (by decide +kernel))).trans ?_
  refine (R_pure0 (ins := .aload_n 1) (len := 1) (loc' := [.ref 38, .null]) (st' := [.null, .ref 40]) (by decide +kernel) (fun _ => rfl)).trans ?_
  refine (R_virt (i := 86) (f := 97) (kd := 0) (na := 1) (ml := 2) (ci := 8) (n := 2) (b := 40) (As := [.null]) (rest := []) (by decide +kernel) (by decide +kernel) (by decide) (by decide +kernel) rfl (by decide +kernel) rfl rfl (by decide +kernel) (Nat.le_of_ble_eq_true rfl)).trans ?_
  rfl
theorem s26_8 {L : Nat} {mi : Nat → Nat → Int32} {ml : Nat → Nat → Int64} {d : Nat} {Q : Option Value → xM → Prop} {r1 : Nat} {n_r1 : Nat} (hS_r1 : isStrip L r1 n_r1) : X 26 8 [.ref 38, .ref r1] [] (SH L, mi, ml, MR) (d + 1) Q =
    Xm 27 [.ref 38] (SH L, mi, ml, MR) d (fun v μ' => X 26 12 [.ref 38, .ref r1] (v.toList ++ []) μ' (d + 1) Q) := by
  refine (R_pure0 (ins := .aload_n 0) (len := 1) (loc' := [.ref 38, .ref r1]) (st' := [.ref 38]) (by decide +kernel) (fun _ => rfl)).trans ?_
  refine (R_virt (i := 83) (f := 27) (kd := 0) (na := 0) (ml := 3) (ci := 2) (n := 5) (b := 38) (As := []) (rest := []) (by decide +kernel) (by decide +kernel) (by decide) (by decide +kernel) rfl (by decide +kernel) rfl rfl (by decide +kernel) (Nat.le_of_ble_eq_true rfl)).trans ?_
  rfl
theorem s26_8v2 {L : Nat} {mi : Nat → Nat → Int32} {ml : Nat → Nat → Int64} {d : Nat} {Q : Option Value → xM → Prop} : X 26 8 [.ref 38, .null] [] (SH L, mi, ml, MR) (d + 1) Q =
    Xm 27 [.ref 38] (SH L, mi, ml, MR) d (fun v μ' => X 26 12 [.ref 38, .null] (v.toList ++ []) μ' (d + 1) Q) := by
  refine (R_pure0 (ins := .aload_n 0) (len := 1) (loc' := [.ref 38, .null]) (st' := [.ref 38]) (by decide +kernel) (fun _ => rfl)).trans ?_
  refine (R_virt (i := 83) (f := 27) (kd := 0) (na := 0) (ml := 3) (ci := 2) (n := 5) (b := 38) (As := []) (rest := []) (by decide +kernel) (by decide +kernel) (by decide) (by decide +kernel) rfl (by decide +kernel) rfl rfl (by decide +kernel) (Nat.le_of_ble_eq_true rfl)).trans ?_
  rfl
theorem s26_12 {L : Nat} {mi : Nat → Nat → Int32} {ml : Nat → Nat → Int64} {d : Nat} {Q : Option Value → xM → Prop} {r1 : Nat} {n_r1 : Nat} (hS_r1 : isStrip L r1 n_r1) : X 26 12 [.ref 38, .ref r1] [] (SH L, mi, ml, MR) d Q =
    Q none (SH L, mi, ml, MR) := by
  exact R_return (by decide +kernel) (by decide +kernel)
theorem s26_12v2 {L : Nat} {mi : Nat → Nat → Int32} {ml : Nat → Nat → Int64} {d : Nat} {Q : Option Value → xM → Prop} : X 26 12 [.ref 38, .null] [] (SH L, mi, ml, MR) d Q =
    Q none (SH L, mi, ml, MR) := by
  exact R_return (by decide +kernel) (by decide +kernel)
theorem s27 {L : Nat} {mi : Nat → Nat → Int32} {ml : Nat → Nat → Int64} {d : Nat} {Q : Option Value → xM → Prop} : Xm 27 [.ref 38] (SH L, mi, ml, MR) d Q =
    X 27 13 [.ref 38, .int 0, xmk] [] (SH L, (xw (xw mi 38 3 0) 38 4 10), ml, MR) d Q := by
  rw [Xm_ent (n := 3) (loc := [.ref 38, xmk, xmk]) (by decide +kernel) rfl]
  refine (R_pure0 (ins := .aload_n 0) (len := 1) (loc' := [.ref 38, xmk, xmk]) (st' := [.ref 38]) (by decide +kernel) (fun _ => rfl)).trans ?_
  refine (R_iconst (n := 0) (v := 0) (by decide +kernel) (by decide +kernel)).trans ?_
  refine (R_pi (i := 30) (ci := 2) (k := 3) (n := 5) (by decide +kernel) (by decide +kernel) (by decide) rfl).trans ?_
  refine (R_pure0 (ins := .aload_n 0) (len := 1) (loc' := [.ref 38, xmk, xmk]) (st' := [.ref 38]) (by decide +kernel) (fun _ => rfl)).trans ?_
  refine (R_bipush (n := 10) (v := 10) (by decide +kernel) (by decide +kernel)).trans ?_
  refine (R_pi (i := 33) (ci := 2) (k := 4) (n := 5) (by decide +kernel) (by decide +kernel) (by decide) rfl).trans ?_
  refine (R_iconst (n := 0) (v := 0) (by decide +kernel) (by decide +kernel)).trans ?_
  refine (R_pure0 (ins := .istore_n 1) (len := 1) (loc' := [.ref 38, .int 0, xmk]) (st' := []) (by decide +kernel) (fun _ => rfl)).trans ?_
  rfl
theorem s27_13 {L : Nat} {mi : Nat → Nat → Int32} {ml : Nat → Nat → Int64} {d : Nat} {Q : Option Value → xM → Prop} {x1 : Int32} : X 27 13 [.ref 38, .int x1, xmk] [] (SH L, mi, ml, MR) (d + 1) Q =
    if (x1 < (mi 38 2)) then (Xm 15 [.ref 38, .int x1] (SH L, mi, ml, MR) d (fun v μ' => X 27 26 [.ref 38, .int x1, xmk] (v.toList ++ []) μ' (d + 1) Q)) else (X 27 43 [.ref 38, .int 0, xmk] [] (SH L, mi, ml, MR) (d + 1) Q) := by
  refine (R_pure0 (ins := .iload_n 1) (len := 1) (loc' := [.ref 38, .int x1, xmk]) (st' := [.int x1]) (by decide +kernel) (fun _ => rfl)).trans ?_
  refine (R_pure0 (ins := .aload_n 0) (len := 1) (loc' := [.ref 38, .int x1, xmk]) (st' := [.ref 38, .int x1]) (by decide +kernel) (fun _ => rfl)).trans ?_
  refine (R_gi (i := 26) (ci := 2) (k := 2) (n := 5) (by decide +kernel) (by decide +kernel) (by decide) rfl).trans ?_
  refine (R_icmp_ge (off := 23) (t := 41) (by decide +kernel) (by decide +kernel)).trans (ite_congr rfl (fun c0 => ?_) (fun c0 => ?_))
  · refine (R_pure0 (ins := .aload_n 0) (len := 1) (loc' := [.ref 38, .int x1, xmk]) (st' := [.ref 38]) (by decide +kernel) (fun _ => rfl)).trans ?_
    refine (R_pure0 (ins := .iload_n 1) (len := 1) (loc' := [.ref 38, .int x1, xmk]) (st' := [.int x1, .ref 38]) (by decide +kernel) (fun _ => rfl)).trans ?_
    refine (R_virt (i := 46) (f := 15) (kd := 0) (na := 1) (ml := 2) (ci := 2) (n := 5) (b := 38) (As := [.int x1]) (rest := []) (by decide +kernel) (by decide +kernel) (by decide) (by decide +kernel) rfl (by decide +kernel) rfl rfl (by decide +kernel) (Nat.le_of_ble_eq_true rfl)).trans ?_
    rfl
  · refine (R_iconst (n := 0) (v := 0) (by decide +kernel) (by decide +kernel)).trans ?_
    refine (R_pure0 (ins := .istore_n 1) (len := 1) (loc' := [.ref 38, .int 0, xmk]) (st' := []) (by decide +kernel) (fun _ => rfl)).trans ?_
    rfl
theorem s27_26 {L : Nat} {mi : Nat → Nat → Int32} {ml : Nat → Nat → Int64} {d : Nat} {Q : Option Value → xM → Prop} {x1 : Int32} {ry : Nat} (hS_ry : (SH L)[ry]? = some (4, 7)) : X 27 26 [.ref 38, .int x1, xmk] [.ref ry] (SH L, mi, ml, MR) (d + 1) Q =
    Xm 51 [.ref ry] (SH L, mi, ml, MR) d (fun v μ' => X 27 35 [.ref 38, .int x1, .ref ry] (v.toList ++ []) μ' (d + 1) Q) := by
  refine (R_pure0 (ins := .astore_n 2) (len := 1) (loc' := [.ref 38, .int x1, .ref ry]) (st' := []) (by decide +kernel) (fun _ => rfl)).trans ?_
  refine (R_pure0 (ins := .aload_n 2) (len := 1) (loc' := [.ref 38, .int x1, .ref ry]) (st' := [.ref ry]) (by decide +kernel) (fun _ => rfl)).trans ?_
  refine (R_ifnull_r (off := 7) (by decide +kernel)).trans ?_
  refine (R_pure0 (ins := .aload_n 2) (len := 1) (loc' := [.ref 38, .int x1, .ref ry]) (st' := [.ref ry]) (by decide +kernel) (fun _ => rfl)).trans ?_
  refine (R_virt (i := 90) (f := 51) (kd := 0) (na := 0) (ml := 1) (ci := 4) (n := 7) (b := ry) (As := []) (rest := []) (by decide +kernel) (by decide +kernel) (by decide) (by decide +kernel) rfl (by decide +kernel) hS_ry rfl (by decide +kernel) (Nat.le_of_ble_eq_true rfl)).trans ?_
  rfl
theorem s27_26n {L : Nat} {mi : Nat → Nat → Int32} {ml : Nat → Nat → Int64} {d : Nat} {Q : Option Value → xM → Prop} {x1 : Int32} : X 27 26 [.ref 38, .int x1, xmk] [.null] (SH L, mi, ml, MR) d Q =
    X 27 13 [.ref 38, .int (x1 + 1), .null] [] (SH L, mi, ml, MR) d Q := by
  refine (R_pure0 (ins := .astore_n 2) (len := 1) (loc' := [.ref 38, .int x1, .null]) (st' := []) (by decide +kernel) (fun _ => rfl)).trans ?_
  refine (R_pure0 (ins := .aload_n 2) (len := 1) (loc' := [.ref 38, .int x1, .null]) (st' := [.null]) (by decide +kernel) (fun _ => rfl)).trans ?_
  refine (R_ifnull_n (off := 7) (t := 35) (by decide +kernel) (by decide +kernel)).trans ?_
  refine (R_iinc (k := 1) (n := 1) (x := x1) (v := (x1 + 1)) (loc' := [.ref 38, .int (x1 + 1), .null]) (by decide +kernel) rfl rfl rfl).trans ?_
  refine (R_goto (off := (-25)) (t := 13) (by decide +kernel) (by decide +kernel)).trans ?_
  rfl
theorem s27_43 {L : Nat} {mi : Nat → Nat → Int32} {ml : Nat → Nat → Int64} {d : Nat} {Q : Option Value → xM → Prop} {x1 : Int32} : X 27 43 [.ref 38, .int x1, xmk] [] (SH L, mi, ml, MR) (d + 1) Q =
    Xm 88 [.ref 40] (SH L, mi, ml, MR) d (fun v μ' => X 27 51 [.ref 38, .int x1, xmk] (v.toList ++ [.int x1]) μ' (d + 1) Q) := by
  refine (R_pure0 (ins := .iload_n 1) (len := 1) (loc' := [.ref 38, .int x1, xmk]) (st' := [.int x1]) (by decide +kernel) (fun _ => rfl)).trans ?_
  refine (R_pure0 (ins := .aload_n 0) (len := 1) (loc' := [.ref 38, .int x1, xmk]) (st' := [.ref 38, .int x1]) (by decide +kernel) (fun _ => rfl)).trans ?_
  refine (R_gr (i := 22) (ci := 2) (k := 1) (n := 5) (b := 40) (by decide +kernel) (by decide +kernel) (by decide) rfl (SH_ref (by decide +kernel))).trans ?_
  refine (R_virt (i := 57) (f := 88) (kd := 0) (na := 0) (ml := 1) (ci := 8) (n := 2) (b := 40) (As := []) (rest := [.int x1]) (by decide +kernel) (by decide +kernel) (by decide) (by decide +kernel) rfl (by decide +kernel) rfl rfl (by decide +kernel) (Nat.le_of_ble_eq_true rfl)).trans ?_
  rfl
theorem s27_35 {L : Nat} {mi : Nat → Nat → Int32} {ml : Nat → Nat → Int64} {d : Nat} {Q : Option Value → xM → Prop} {x1 : Int32} {r2 : Nat} (hS_r2 : (SH L)[r2]? = some (4, 7)) : X 27 35 [.ref 38, .int x1, .ref r2] [] (SH L, mi, ml, MR) d Q =
    X 27 13 [.ref 38, .int (x1 + 1), .ref r2] [] (SH L, mi, ml, MR) d Q := by
  refine (R_iinc (k := 1) (n := 1) (x := x1) (v := (x1 + 1)) (loc' := [.ref 38, .int (x1 + 1), .ref r2]) (by decide +kernel) rfl rfl rfl).trans ?_
  refine (R_goto (off := (-25)) (t := 13) (by decide +kernel) (by decide +kernel)).trans ?_
  rfl
theorem s27_13v2 {L : Nat} {mi : Nat → Nat → Int32} {ml : Nat → Nat → Int64} {d : Nat} {Q : Option Value → xM → Prop} {x1 : Int32} : X 27 13 [.ref 38, .int x1, .null] [] (SH L, mi, ml, MR) (d + 1) Q =
    if (x1 < (mi 38 2)) then (Xm 15 [.ref 38, .int x1] (SH L, mi, ml, MR) d (fun v μ' => X 27 26 [.ref 38, .int x1, .null] (v.toList ++ []) μ' (d + 1) Q)) else (X 27 43 [.ref 38, .int 0, .null] [] (SH L, mi, ml, MR) (d + 1) Q) := by
  refine (R_pure0 (ins := .iload_n 1) (len := 1) (loc' := [.ref 38, .int x1, .null]) (st' := [.int x1]) (by decide +kernel) (fun _ => rfl)).trans ?_
  refine (R_pure0 (ins := .aload_n 0) (len := 1) (loc' := [.ref 38, .int x1, .null]) (st' := [.ref 38, .int x1]) (by decide +kernel) (fun _ => rfl)).trans ?_
  refine (R_gi (i := 26) (ci := 2) (k := 2) (n := 5) (by decide +kernel) (by decide +kernel) (by decide) rfl).trans ?_
  refine (R_icmp_ge (off := 23) (t := 41) (by decide +kernel) (by decide +kernel)).trans (ite_congr rfl (fun c0 => ?_) (fun c0 => ?_))
  · refine (R_pure0 (ins := .aload_n 0) (len := 1) (loc' := [.ref 38, .int x1, .null]) (st' := [.ref 38]) (by decide +kernel) (fun _ => rfl)).trans ?_
    refine (R_pure0 (ins := .iload_n 1) (len := 1) (loc' := [.ref 38, .int x1, .null]) (st' := [.int x1, .ref 38]) (by decide +kernel) (fun _ => rfl)).trans ?_
    refine (R_virt (i := 46) (f := 15) (kd := 0) (na := 1) (ml := 2) (ci := 2) (n := 5) (b := 38) (As := [.int x1]) (rest := []) (by decide +kernel) (by decide +kernel) (by decide) (by decide +kernel) rfl (by decide +kernel) rfl rfl (by decide +kernel) (Nat.le_of_ble_eq_true rfl)).trans ?_
    rfl
  · refine (R_iconst (n := 0) (v := 0) (by decide +kernel) (by decide +kernel)).trans ?_
    refine (R_pure0 (ins := .istore_n 1) (len := 1) (loc' := [.ref 38, .int 0, .null]) (st' := []) (by decide +kernel) (fun _ => rfl)).trans ?_
    rfl
theorem s27_51 {L : Nat} {mi : Nat → Nat → Int32} {ml : Nat → Nat → Int64} {d : Nat} {Q : Option Value → xM → Prop} {x1 y z0 : Int32} : X 27 51 [.ref 38, .int x1, xmk] [.int y, .int z0] (SH L, mi, ml, MR) (d + 1) Q =
    if (z0 < y) then (Xm 90 [.ref 40, .int x1] (SH L, mi, ml, MR) d (fun v μ' => X 27 62 [.ref 38, .int x1, xmk] (v.toList ++ []) μ' (d + 1) Q)) else (Q none (SH L, mi, ml, MR)) := by
  refine (R_icmp_ge (off := 34) (t := 85) (by decide +kernel) (by decide +kernel)).trans (ite_congr rfl (fun c0 => ?_) (fun c0 => ?_))
  · refine (R_pure0 (ins := .aload_n 0) (len := 1) (loc' := [.ref 38, .int x1, xmk]) (st' := [.ref 38]) (by decide +kernel) (fun _ => rfl)).trans ?_
    refine (R_gr (i := 22) (ci := 2) (k := 1) (n := 5) (b := 40) (by decide +kernel) (by decide +kernel) (by decide) rfl (SH_ref (by decide +kernel))).trans ?_
    refine (R_pure0 (ins := .iload_n 1) (len := 1) (loc' := [.ref 38, .int x1, xmk]) (st' := [.int x1, .ref 40]) (by decide +kernel) (fun _ => rfl)).trans ?_
    refine (R_virt (i := 93) (f := 90) (kd := 0) (na := 1) (ml := 2) (ci := 8) (n := 2) (b := 40) (As := [.int x1]) (rest := []) (by decide +kernel) (by decide +kernel) (by decide) (by decide +kernel) rfl (by decide +kernel) rfl rfl (by decide +kernel) (Nat.le_of_ble_eq_true rfl)).trans ?_
    rfl
  · exact R_return (by decide +kernel) (by decide +kernel)
theorem s27_13v3 {L : Nat} {mi : Nat → Nat → Int32} {ml : Nat → Nat → Int64} {d : Nat} {Q : Option Value → xM → Prop} {x1 : Int32} {r2 : Nat} (hS_r2 : (SH L)[r2]? = some (4, 7)) : X 27 13 [.ref 38, .int x1, .ref r2] [] (SH L, mi, ml, MR) (d + 1) Q =
    if (x1 < (mi 38 2)) then (Xm 15 [.ref 38, .int x1] (SH L, mi, ml, MR) d (fun v μ' => X 27 26 [.ref 38, .int x1, .ref r2] (v.toList ++ []) μ' (d + 1) Q)) else (X 27 43 [.ref 38, .int 0, .ref r2] [] (SH L, mi, ml, MR) (d + 1) Q) := by
  refine (R_pure0 (ins := .iload_n 1) (len := 1) (loc' := [.ref 38, .int x1, .ref r2]) (st' := [.int x1]) (by decide +kernel) (fun _ => rfl)).trans ?_
  refine (R_pure0 (ins := .aload_n 0) (len := 1) (loc' := [.ref 38, .int x1, .ref r2]) (st' := [.ref 38, .int x1]) (by decide +kernel) (fun _ => rfl)).trans ?_
  refine (R_gi (i := 26) (ci := 2) (k := 2) (n := 5) (by decide +kernel) (by decide +kernel) (by decide) rfl).trans ?_
  refine (R_icmp_ge (off := 23) (t := 41) (by decide +kernel) (by decide +kernel)).trans (ite_congr rfl (fun c0 => ?_) (fun c0 => ?_))
  · refine (R_pure0 (ins := .aload_n 0) (len := 1) (loc' := [.ref 38, .int x1, .ref r2]) (st' := [.ref 38]) (by decide +kernel) (fun _ => rfl)).trans ?_
    refine (R_pure0 (ins := .iload_n 1) (len := 1) (loc' := [.ref 38, .int x1, .ref r2]) (st' := [.int x1, .ref 38]) (by decide +kernel) (fun _ => rfl)).trans ?_
    refine (R_virt (i := 46) (f := 15) (kd := 0) (na := 1) (ml := 2) (ci := 2) (n := 5) (b := 38) (As := [.int x1]) (rest := []) (by decide +kernel) (by decide +kernel) (by decide) (by decide +kernel) rfl (by decide +kernel) rfl rfl (by decide +kernel) (Nat.le_of_ble_eq_true rfl)).trans ?_
    rfl
  · refine (R_iconst (n := 0) (v := 0) (by decide +kernel) (by decide +kernel)).trans ?_
    refine (R_pure0 (ins := .istore_n 1) (len := 1) (loc' := [.ref 38, .int 0, .ref r2]) (st' := []) (by decide +kernel) (fun _ => rfl)).trans ?_
    rfl
theorem s27_26v2 {L : Nat} {mi : Nat → Nat → Int32} {ml : Nat → Nat → Int64} {d : Nat} {Q : Option Value → xM → Prop} {x1 : Int32} {ry : Nat} (hS_ry : (SH L)[ry]? = some (4, 7)) : X 27 26 [.ref 38, .int x1, .null] [.ref ry] (SH L, mi, ml, MR) (d + 1) Q =
    Xm 51 [.ref ry] (SH L, mi, ml, MR) d (fun v μ' => X 27 35 [.ref 38, .int x1, .ref ry] (v.toList ++ []) μ' (d + 1) Q) := by
  refine (R_pure0 (ins := .astore_n 2) (len := 1) (loc' := [.ref 38, .int x1, .ref ry]) (st' := []) (by decide +kernel) (fun _ => rfl)).trans ?_
  refine (R_pure0 (ins := .aload_n 2) (len := 1) (loc' := [.ref 38, .int x1, .ref ry]) (st' := [.ref ry]) (by decide +kernel) (fun _ => rfl)).trans ?_
  refine (R_ifnull_r (off := 7) (by decide +kernel)).trans ?_
  refine (R_pure0 (ins := .aload_n 2) (len := 1) (loc' := [.ref 38, .int x1, .ref ry]) (st' := [.ref ry]) (by decide +kernel) (fun _ => rfl)).trans ?_
  refine (R_virt (i := 90) (f := 51) (kd := 0) (na := 0) (ml := 1) (ci := 4) (n := 7) (b := ry) (As := []) (rest := []) (by decide +kernel) (by decide +kernel) (by decide) (by decide +kernel) rfl (by decide +kernel) hS_ry rfl (by decide +kernel) (Nat.le_of_ble_eq_true rfl)).trans ?_
  rfl
theorem s27_26nv2 {L : Nat} {mi : Nat → Nat → Int32} {ml : Nat → Nat → Int64} {d : Nat} {Q : Option Value → xM → Prop} {x1 : Int32} : X 27 26 [.ref 38, .int x1, .null] [.null] (SH L, mi, ml, MR) d Q =
    X 27 13 [.ref 38, .int (x1 + 1), .null] [] (SH L, mi, ml, MR) d Q := by
  refine (R_pure0 (ins := .astore_n 2) (len := 1) (loc' := [.ref 38, .int x1, .null]) (st' := []) (by decide +kernel) (fun _ => rfl)).trans ?_
  refine (R_pure0 (ins := .aload_n 2) (len := 1) (loc' := [.ref 38, .int x1, .null]) (st' := [.null]) (by decide +kernel) (fun _ => rfl)).trans ?_
  refine (R_ifnull_n (off := 7) (t := 35) (by decide +kernel) (by decide +kernel)).trans ?_
  refine (R_iinc (k := 1) (n := 1) (x := x1) (v := (x1 + 1)) (loc' := [.ref 38, .int (x1 + 1), .null]) (by decide +kernel) rfl rfl rfl).trans ?_
  refine (R_goto (off := (-25)) (t := 13) (by decide +kernel) (by decide +kernel)).trans ?_
  rfl
theorem s27_43v2 {L : Nat} {mi : Nat → Nat → Int32} {ml : Nat → Nat → Int64} {d : Nat} {Q : Option Value → xM → Prop} {x1 : Int32} : X 27 43 [.ref 38, .int x1, .null] [] (SH L, mi, ml, MR) (d + 1) Q =
    Xm 88 [.ref 40] (SH L, mi, ml, MR) d (fun v μ' => X 27 51 [.ref 38, .int x1, .null] (v.toList ++ [.int x1]) μ' (d + 1) Q) := by
  refine (R_pure0 (ins := .iload_n 1) (len := 1) (loc' := [.ref 38, .int x1, .null]) (st' := [.int x1]) (by decide +kernel) (fun _ => rfl)).trans ?_
  refine (R_pure0 (ins := .aload_n 0) (len := 1) (loc' := [.ref 38, .int x1, .null]) (st' := [.ref 38, .int x1]) (by decide +kernel) (fun _ => rfl)).trans ?_
  refine (R_gr (i := 22) (ci := 2) (k := 1) (n := 5) (b := 40) (by decide +kernel) (by decide +kernel) (by decide) rfl (SH_ref (by decide +kernel))).trans ?_
  refine (R_virt (i := 57) (f := 88) (kd := 0) (na := 0) (ml := 1) (ci := 8) (n := 2) (b := 40) (As := []) (rest := [.int x1]) (by decide +kernel) (by decide +kernel) (by decide) (by decide +kernel) rfl (by decide +kernel) rfl rfl (by decide +kernel) (Nat.le_of_ble_eq_true rfl)).trans ?_
  rfl
theorem s27_62 {L : Nat} {mi : Nat → Nat → Int32} {ml : Nat → Nat → Int64} {d : Nat} {Q : Option Value → xM → Prop} {x1 y : Int32} : X 27 62 [.ref 38, .int x1, xmk] [.int y] (SH L, mi, ml, MR) (d + 1) Q =
    Xm 15 [.ref 38, .int (y - y / 10 * 10)] (SH L, mi, ml, MR) d (fun v μ' => X 27 76 [.ref 38, .int x1, .int y] (v.toList ++ [.int (y / 10), .ref 38]) μ' (d + 1) Q) := by
  refine (R_pure0 (ins := .istore_n 2) (len := 1) (loc' := [.ref 38, .int x1, .int y]) (st' := []) (by decide +kernel) (fun _ => rfl)).trans ?_
  refine (R_pure0 (ins := .aload_n 0) (len := 1) (loc' := [.ref 38, .int x1, .int y]) (st' := [.ref 38]) (by decide +kernel) (fun _ => rfl)).trans ?_
  refine (R_pure0 (ins := .iload_n 2) (len := 1) (loc' := [.ref 38, .int x1, .int y]) (st' := [.int y, .ref 38]) (by decide +kernel) (fun _ => rfl)).trans ?_
  refine (R_bipush (n := 10) (v := 10) (by decide +kernel) (by decide +kernel)).trans ?_
  refine (R_idiv (x := y) (y := 10) (by decide +kernel) (by decide)).trans ?_
  refine (R_pure0 (ins := .aload_n 0) (len := 1) (loc' := [.ref 38, .int x1, .int y]) (st' := [.ref 38, .int (y / 10), .ref 38]) (by decide +kernel) (fun _ => rfl)).trans ?_
  refine (R_pure0 (ins := .iload_n 2) (len := 1) (loc' := [.ref 38, .int x1, .int y]) (st' := [.int y, .ref 38, .int (y / 10), .ref 38]) (by decide +kernel) (fun _ => rfl)).trans ?_
  refine (R_bipush (n := 10) (v := 10) (by decide +kernel) (by decide +kernel)).trans ?_
  refine (R_irem (x := y) (y := 10) (by decide +kernel) (by decide)).trans ?_
  refine (R_virt (i := 46) (f := 15) (kd := 0) (na := 1) (ml := 2) (ci := 2) (n := 5) (b := 38) (As := [.int (y - y / 10 * 10)]) (rest := [.int (y / 10), .ref 38]) (by decide +kernel) (by decide +kernel) (by decide) (by decide +kernel) rfl (by decide +kernel) rfl rfl (by decide +kernel) (Nat.le_of_ble_eq_true rfl)).trans ?_
  rfl
theorem s27_26v3 {L : Nat} {mi : Nat → Nat → Int32} {ml : Nat → Nat → Int64} {d : Nat} {Q : Option Value → xM → Prop} {x1 : Int32} {r2 ry : Nat} (hS_r2 : (SH L)[r2]? = some (4, 7)) (hS_ry : (SH L)[ry]? = some (4, 7)) : X 27 26 [.ref 38, .int x1, .ref r2] [.ref ry] (SH L, mi, ml, MR) (d + 1) Q =
    Xm 51 [.ref ry] (SH L, mi, ml, MR) d (fun v μ' => X 27 35 [.ref 38, .int x1, .ref ry] (v.toList ++ []) μ' (d + 1) Q) := by
  refine (R_pure0 (ins := .astore_n 2) (len := 1) (loc' := [.ref 38, .int x1, .ref ry]) (st' := []) (by decide +kernel) (fun _ => rfl)).trans ?_
  refine (R_pure0 (ins := .aload_n 2) (len := 1) (loc' := [.ref 38, .int x1, .ref ry]) (st' := [.ref ry]) (by decide +kernel) (fun _ => rfl)).trans ?_
  refine (R_ifnull_r (off := 7) (by decide +kernel)).trans ?_
  refine (R_pure0 (ins := .aload_n 2) (len := 1) (loc' := [.ref 38, .int x1, .ref ry]) (st' := [.ref ry]) (by decide +kernel) (fun _ => rfl)).trans ?_
  refine (R_virt (i := 90) (f := 51) (kd := 0) (na := 0) (ml := 1) (ci := 4) (n := 7) (b := ry) (As := []) (rest := []) (by decide +kernel) (by decide +kernel) (by decide) (by decide +kernel) rfl (by decide +kernel) hS_ry rfl (by decide +kernel) (Nat.le_of_ble_eq_true rfl)).trans ?_
  rfl
theorem s27_26nv3 {L : Nat} {mi : Nat → Nat → Int32} {ml : Nat → Nat → Int64} {d : Nat} {Q : Option Value → xM → Prop} {x1 : Int32} {r2 : Nat} (hS_r2 : (SH L)[r2]? = some (4, 7)) : X 27 26 [.ref 38, .int x1, .ref r2] [.null] (SH L, mi, ml, MR) d Q =
    X 27 13 [.ref 38, .int (x1 + 1), .null] [] (SH L, mi, ml, MR) d Q := by
  refine (R_pure0 (ins := .astore_n 2) (len := 1) (loc' := [.ref 38, .int x1, .null]) (st' := []) (by decide +kernel) (fun _ => rfl)).trans ?_
  refine (R_pure0 (ins := .aload_n 2) (len := 1) (loc' := [.ref 38, .int x1, .null]) (st' := [.null]) (by decide +kernel) (fun _ => rfl)).trans ?_
  refine (R_ifnull_n (off := 7) (t := 35) (by decide +kernel) (by decide +kernel)).trans ?_
  refine (R_iinc (k := 1) (n := 1) (x := x1) (v := (x1 + 1)) (loc' := [.ref 38, .int (x1 + 1), .null]) (by decide +kernel) rfl rfl rfl).trans ?_
  refine (R_goto (off := (-25)) (t := 13) (by decide +kernel) (by decide +kernel)).trans ?_
  rfl
theorem s27_43v3 {L : Nat} {mi : Nat → Nat → Int32} {ml : Nat → Nat → Int64} {d : Nat} {Q : Option Value → xM → Prop} {x1 : Int32} {r2 : Nat} (hS_r2 : (SH L)[r2]? = some (4, 7)) : X 27 43 [.ref 38, .int x1, .ref r2] [] (SH L, mi, ml, MR) (d + 1) Q =
    Xm 88 [.ref 40] (SH L, mi, ml, MR) d (fun v μ' => X 27 51 [.ref 38, .int x1, .ref r2] (v.toList ++ [.int x1]) μ' (d + 1) Q) := by
  refine (R_pure0 (ins := .iload_n 1) (len := 1) (loc' := [.ref 38, .int x1, .ref r2]) (st' := [.int x1]) (by decide +kernel) (fun _ => rfl)).trans ?_
  refine (R_pure0 (ins := .aload_n 0) (len := 1) (loc' := [.ref 38, .int x1, .ref r2]) (st' := [.ref 38, .int x1]) (by decide +kernel) (fun _ => rfl)).trans ?_
  refine (R_gr (i := 22) (ci := 2) (k := 1) (n := 5) (b := 40) (by decide +kernel) (by decide +kernel) (by decide) rfl (SH_ref (by decide +kernel))).trans ?_
  refine (R_virt (i := 57) (f := 88) (kd := 0) (na := 0) (ml := 1) (ci := 8) (n := 2) (b := 40) (As := []) (rest := [.int x1]) (by decide +kernel) (by decide +kernel) (by decide) (by decide +kernel) rfl (by decide +kernel) rfl rfl (by decide +kernel) (Nat.le_of_ble_eq_true rfl)).trans ?_
  rfl
theorem s27_51v2 {L : Nat} {mi : Nat → Nat → Int32} {ml : Nat → Nat → Int64} {d : Nat} {Q : Option Value → xM → Prop} {x1 y z0 : Int32} : X 27 51 [.ref 38, .int x1, .null] [.int y, .int z0] (SH L, mi, ml, MR) (d + 1) Q =
    if (z0 < y) then (Xm 90 [.ref 40, .int x1] (SH L, mi, ml, MR) d (fun v μ' => X 27 62 [.ref 38, .int x1, .null] (v.toList ++ []) μ' (d + 1) Q)) else (Q none (SH L, mi, ml, MR)) := by
  refine (R_icmp_ge (off := 34) (t := 85) (by decide +kernel) (by decide +kernel)).trans (ite_congr rfl (fun c0 => ?_) (fun c0 => ?_))
  · refine (R_pure0 (ins := .aload_n 0) (len := 1) (loc' := [.ref 38, .int x1, .null]) (st' := [.ref 38]) (by decide +kernel) (fun _ => rfl)).trans ?_
    refine (R_gr (i := 22) (ci := 2) (k := 1) (n := 5) (b := 40) (by decide +kernel) (by decide +kernel) (by decide) rfl (SH_ref (by decide +kernel))).trans ?_
    refine (R_pure0 (ins := .iload_n 1) (len := 1) (loc' := [.ref 38, .int x1, .null]) (st' := [.int x1, .ref 40]) (by decide +kernel) (fun _ => rfl)).trans ?_
    refine (R_virt (i := 93) (f := 90) (kd := 0) (na := 1) (ml := 2) (ci := 8) (n := 2) (b := 40) (As := [.int x1]) (rest := []) (by decide +kernel) (by decide +kernel) (by decide) (by decide +kernel) rfl (by decide +kernel) rfl rfl (by decide +kernel) (Nat.le_of_ble_eq_true rfl)).trans ?_
    rfl
  · exact R_return (by decide +kernel) (by decide +kernel)
theorem s27_76 {L : Nat} {mi : Nat → Nat → Int32} {ml : Nat → Nat → Int64} {d : Nat} {Q : Option Value → xM → Prop} {x1 x2 z0 : Int32} {ry : Nat} (hS_ry : (SH L)[ry]? = some (4, 7)) : X 27 76 [.ref 38, .int x1, .int x2] [.ref ry, .int z0, .ref 38] (SH L, mi, ml, MR) (d + 1) Q =
    Xm 24 [.ref 38, .int z0, .ref ry] (SH L, mi, ml, MR) d (fun v μ' => X 27 79 [.ref 38, .int x1, .int x2] (v.toList ++ []) μ' (d + 1) Q) := by
  refine (R_virt (i := 62) (f := 24) (kd := 0) (na := 2) (ml := 3) (ci := 2) (n := 5) (b := 38) (As := [.int z0, .ref ry]) (rest := []) (by decide +kernel) (by decide +kernel) (by decide) (by decide +kernel) rfl (by decide +kernel) rfl rfl (by decide +kernel) (Nat.le_of_ble_eq_true rfl)).trans ?_
  rfl
theorem s27_76n {L : Nat} {mi : Nat → Nat → Int32} {ml : Nat → Nat → Int64} {d : Nat} {Q : Option Value → xM → Prop} {x1 x2 z0 : Int32} : X 27 76 [.ref 38, .int x1, .int x2] [.null, .int z0, .ref 38] (SH L, mi, ml, MR) (d + 1) Q =
    Xm 24 [.ref 38, .int z0, .null] (SH L, mi, ml, MR) d (fun v μ' => X 27 79 [.ref 38, .int x1, .int x2] (v.toList ++ []) μ' (d + 1) Q) := by
  refine (R_virt (i := 62) (f := 24) (kd := 0) (na := 2) (ml := 3) (ci := 2) (n := 5) (b := 38) (As := [.int z0, .null]) (rest := []) (by decide +kernel) (by decide +kernel) (by decide) (by decide +kernel) rfl (by decide +kernel) rfl rfl (by decide +kernel) (Nat.le_of_ble_eq_true rfl)).trans ?_
  rfl
theorem s27_51v3 {L : Nat} {mi : Nat → Nat → Int32} {ml : Nat → Nat → Int64} {d : Nat} {Q : Option Value → xM → Prop} {x1 y z0 : Int32} {r2 : Nat} (hS_r2 : (SH L)[r2]? = some (4, 7)) : X 27 51 [.ref 38, .int x1, .ref r2] [.int y, .int z0] (SH L, mi, ml, MR) (d + 1) Q =
    if (z0 < y) then (Xm 90 [.ref 40, .int x1] (SH L, mi, ml, MR) d (fun v μ' => X 27 62 [.ref 38, .int x1, .ref r2] (v.toList ++ []) μ' (d + 1) Q)) else (Q none (SH L, mi, ml, MR)) := by
  refine (R_icmp_ge (off := 34) (t := 85) (by decide +kernel) (by decide +kernel)).trans (ite_congr rfl (fun c0 => ?_) (fun c0 => ?_))
  · refine (R_pure0 (ins := .aload_n 0) (len := 1) (loc' := [.ref 38, .int x1, .ref r2]) (st' := [.ref 38]) (by decide +kernel) (fun _ => rfl)).trans ?_
    refine (R_gr (i := 22) (ci := 2) (k := 1) (n := 5) (b := 40) (by decide +kernel) (by decide +kernel) (by decide) rfl (SH_ref (by decide +kernel))).trans ?_
    refine (R_pure0 (ins := .iload_n 1) (len := 1) (loc' := [.ref 38, .int x1, .ref r2]) (st' := [.int x1, .ref 40]) (by decide +kernel) (fun _ => rfl)).trans ?_
    refine (R_virt (i := 93) (f := 90) (kd := 0) (na := 1) (ml := 2) (ci := 8) (n := 2) (b := 40) (As := [.int x1]) (rest := []) (by decide +kernel) (by decide +kernel) (by decide) (by decide +kernel) rfl (by decide +kernel) rfl rfl (by decide +kernel) (Nat.le_of_ble_eq_true rfl)).trans ?_
    rfl
  · exact R_return (by decide +kernel) (by decide +kernel)
theorem s27_62v2 {L : Nat} {mi : Nat → Nat → Int32} {ml : Nat → Nat → Int64} {d : Nat} {Q : Option Value → xM → Prop} {x1 y : Int32} : X 27 62 [.ref 38, .int x1, .null] [.int y] (SH L, mi, ml, MR) (d + 1) Q =
    Xm 15 [.ref 38, .int (y - y / 10 * 10)] (SH L, mi, ml, MR) d (fun v μ' => X 27 76 [.ref 38, .int x1, .int y] (v.toList ++ [.int (y / 10), .ref 38]) μ' (d + 1) Q) := by
  refine (R_pure0 (ins := .istore_n 2) (len := 1) (loc' := [.ref 38, .int x1, .int y]) (st' := []) (by decide +kernel) (fun _ => rfl)).trans ?_
  refine (R_pure0 (ins := .aload_n 0) (len := 1) (loc' := [.ref 38, .int x1, .int y]) (st' := [.ref 38]) (by decide +kernel) (fun _ => rfl)).trans ?_
  refine (R_pure0 (ins := .iload_n 2) (len := 1) (loc' := [.ref 38, .int x1, .int y]) (st' := [.int y, .ref 38]) (by decide +kernel) (fun _ => rfl)).trans ?_
  refine (R_bipush (n := 10) (v := 10) (by decide +kernel) (by decide +kernel)).trans ?_
  refine (R_idiv (x := y) (y := 10) (by decide +kernel) (by decide)).trans ?_
  refine (R_pure0 (ins := .aload_n 0) (len := 1) (loc' := [.ref 38, .int x1, .int y]) (st' := [.ref 38, .int (y / 10), .ref 38]) (by decide +kernel) (fun _ => rfl)).trans ?_
  refine (R_pure0 (ins := .iload_n 2) (len := 1) (loc' := [.ref 38, .int x1, .int y]) (st' := [.int y, .ref 38, .int (y / 10), .ref 38]) (by decide +kernel) (fun _ => rfl)).trans ?_
  refine (R_bipush (n := 10) (v := 10) (by decide +kernel) (by decide +kernel)).trans ?_
  refine (R_irem (x := y) (y := 10) (by decide +kernel) (by decide)).trans ?_
  refine (R_virt (i := 46) (f := 15) (kd := 0) (na := 1) (ml := 2) (ci := 2) (n := 5) (b := 38) (As := [.int (y - y / 10 * 10)]) (rest := [.int (y / 10), .ref 38]) (by decide +kernel) (by decide +kernel) (by decide) (by decide +kernel) rfl (by decide +kernel) rfl rfl (by decide +kernel) (Nat.le_of_ble_eq_true rfl)).trans ?_
  rfl
theorem s27_79 {L : Nat} {mi : Nat → Nat → Int32} {ml : Nat → Nat → Int64} {d : Nat} {Q : Option Value → xM → Prop} {x1 x2 : Int32} : X 27 79 [.ref 38, .int x1, .int x2] [] (SH L, mi, ml, MR) d Q =
    X 27 43 [.ref 38, .int (x1 + 1), .int x2] [] (SH L, mi, ml, MR) d Q := by
  refine (R_iinc (k := 1) (n := 1) (x := x1) (v := (x1 + 1)) (loc' := [.ref 38, .int (x1 + 1), .int x2]) (by decide +kernel) rfl rfl rfl).trans ?_
  refine (R_goto (off := (-39)) (t := 43) (by decide +kernel) (by decide +kernel)).trans ?_
  rfl
theorem s27_62v3 {L : Nat} {mi : Nat → Nat → Int32} {ml : Nat → Nat → Int64} {d : Nat} {Q : Option Value → xM → Prop} {x1 y : Int32} {r2 : Nat} (hS_r2 : (SH L)[r2]? = some (4, 7)) : X 27 62 [.ref 38, .int x1, .ref r2] [.int y] (SH L, mi, ml, MR) (d + 1) Q =
    Xm 15 [.ref 38, .int (y - y / 10 * 10)] (SH L, mi, ml, MR) d (fun v μ' => X 27 76 [.ref 38, .int x1, .int y] (v.toList ++ [.int (y / 10), .ref 38]) μ' (d + 1) Q) := by
  refine (R_pure0 (ins := .istore_n 2) (len := 1) (loc' := [.ref 38, .int x1, .int y]) (st' := []) (by decide +kernel) (fun _ => rfl)).trans ?_
  refine (R_pure0 (ins := .aload_n 0) (len := 1) (loc' := [.ref 38, .int x1, .int y]) (st' := [.ref 38]) (by decide +kernel) (fun _ => rfl)).trans ?_
  refine (R_pure0 (ins := .iload_n 2) (len := 1) (loc' := [.ref 38, .int x1, .int y]) (st' := [.int y, .ref 38]) (by decide +kernel) (fun _ => rfl)).trans ?_
  refine (R_bipush (n := 10) (v := 10) (by decide +kernel) (by decide +kernel)).trans ?_
  refine (R_idiv (x := y) (y := 10) (by decide +kernel) (by decide)).trans ?_
  refine (R_pure0 (ins := .aload_n 0) (len := 1) (loc' := [.ref 38, .int x1, .int y]) (st' := [.ref 38, .int (y / 10), .ref 38]) (by decide +kernel) (fun _ => rfl)).trans ?_
  refine (R_pure0 (ins := .iload_n 2) (len := 1) (loc' := [.ref 38, .int x1, .int y]) (st' := [.int y, .ref 38, .int (y / 10), .ref 38]) (by decide +kernel) (fun _ => rfl)).trans ?_
  refine (R_bipush (n := 10) (v := 10) (by decide +kernel) (by decide +kernel)).trans ?_
  refine (R_irem (x := y) (y := 10) (by decide +kernel) (by decide)).trans ?_
  refine (R_virt (i := 46) (f := 15) (kd := 0) (na := 1) (ml := 2) (ci := 2) (n := 5) (b := 38) (As := [.int (y - y / 10 * 10)]) (rest := [.int (y / 10), .ref 38]) (by decide +kernel) (by decide +kernel) (by decide) (by decide +kernel) rfl (by decide +kernel) rfl rfl (by decide +kernel) (Nat.le_of_ble_eq_true rfl)).trans ?_
  rfl
theorem s27_43v4 {L : Nat} {mi : Nat → Nat → Int32} {ml : Nat → Nat → Int64} {d : Nat} {Q : Option Value → xM → Prop} {x1 x2 : Int32} : X 27 43 [.ref 38, .int x1, .int x2] [] (SH L, mi, ml, MR) (d + 1) Q =
    Xm 88 [.ref 40] (SH L, mi, ml, MR) d (fun v μ' => X 27 51 [.ref 38, .int x1, .int x2] (v.toList ++ [.int x1]) μ' (d + 1) Q) := by
  refine (R_pure0 (ins := .iload_n 1) (len := 1) (loc' := [.ref 38, .int x1, .int x2]) (st' := [.int x1]) (by decide +kernel) (fun _ => rfl)).trans ?_
  refine (R_pure0 (ins := .aload_n 0) (len := 1) (loc' := [.ref 38, .int x1, .int x2]) (st' := [.ref 38, .int x1]) (by decide +kernel) (fun _ => rfl)).trans ?_
  refine (R_gr (i := 22) (ci := 2) (k := 1) (n := 5) (b := 40) (by decide +kernel) (by decide +kernel) (by decide) rfl (SH_ref (by decide +kernel))).trans ?_
  refine (R_virt (i := 57) (f := 88) (kd := 0) (na := 0) (ml := 1) (ci := 8) (n := 2) (b := 40) (As := []) (rest := [.int x1]) (by decide +kernel) (by decide +kernel) (by decide) (by decide +kernel) rfl (by decide +kernel) rfl rfl (by decide +kernel) (Nat.le_of_ble_eq_true rfl)).trans ?_
  rfl
theorem s27_51v4 {L : Nat} {mi : Nat → Nat → Int32} {ml : Nat → Nat → Int64} {d : Nat} {Q : Option Value → xM → Prop} {x1 x2 y z0 : Int32} : X 27 51 [.ref 38, .int x1, .int x2] [.int y, .int z0] (SH L, mi, ml, MR) (d + 1) Q =
    if (z0 < y) then (Xm 90 [.ref 40, .int x1] (SH L, mi, ml, MR) d (fun v μ' => X 27 62 [.ref 38, .int x1, .int x2] (v.toList ++ []) μ' (d + 1) Q)) else (Q none (SH L, mi, ml, MR)) := by
  refine (R_icmp_ge (off := 34) (t := 85) (by decide +kernel) (by decide +kernel)).trans (ite_congr rfl (fun c0 => ?_) (fun c0 => ?_))
  · refine (R_pure0 (ins := .aload_n 0) (len := 1) (loc' := [.ref 38, .int x1, .int x2]) (st' := [.ref 38]) (by decide +kernel) (fun _ => rfl)).trans ?_
    refine (R_gr (i := 22) (ci := 2) (k := 1) (n := 5) (b := 40) (by decide +kernel) (by decide +kernel) (by decide) rfl (SH_ref (by decide +kernel))).trans ?_
    refine (R_pure0 (ins := .iload_n 1) (len := 1) (loc' := [.ref 38, .int x1, .int x2]) (st' := [.int x1, .ref 40]) (by decide +kernel) (fun _ => rfl)).trans ?_
    refine (R_virt (i := 93) (f := 90) (kd := 0) (na := 1) (ml := 2) (ci := 8) (n := 2) (b := 40) (As := [.int x1]) (rest := []) (by decide +kernel) (by decide +kernel) (by decide) (by decide +kernel) rfl (by decide +kernel) rfl rfl (by decide +kernel) (Nat.le_of_ble_eq_true rfl)).trans ?_
    rfl
  · exact R_return (by decide +kernel) (by decide +kernel)
theorem s27_62v4 {L : Nat} {mi : Nat → Nat → Int32} {ml : Nat → Nat → Int64} {d : Nat} {Q : Option Value → xM → Prop} {x1 x2 y : Int32} : X 27 62 [.ref 38, .int x1, .int x2] [.int y] (SH L, mi, ml, MR) (d + 1) Q =
    Xm 15 [.ref 38, .int (y - y / 10 * 10)] (SH L, mi, ml, MR) d (fun v μ' => X 27 76 [.ref 38, .int x1, .int y] (v.toList ++ [.int (y / 10), .ref 38]) μ' (d + 1) Q) := by
  refine (R_pure0 (ins := .istore_n 2) (len := 1) (loc' := [.ref 38, .int x1, .int y]) (st' := []) (by decide +kernel) (fun _ => rfl)).trans ?_
  refine (R_pure0 (ins := .aload_n 0) (len := 1) (loc' := [.ref 38, .int x1, .int y]) (st' := [.ref 38]) (by decide +kernel) (fun _ => rfl)).trans ?_
  refine (R_pure0 (ins := .iload_n 2) (len := 1) (loc' := [.ref 38, .int x1, .int y]) (st' := [.int y, .ref 38]) (by decide +kernel) (fun _ => rfl)).trans ?_
  refine (R_bipush (n := 10) (v := 10) (by decide +kernel) (by decide +kernel)).trans ?_
  refine (R_idiv (x := y) (y := 10) (by decide +kernel) (by decide)).trans ?_
  refine (R_pure0 (ins := .aload_n 0) (len := 1) (loc' := [.ref 38, .int x1, .int y]) (st' := [.ref 38, .int (y / 10), .ref 38]) (by decide +kernel) (fun _ => rfl)).trans ?_
  refine (R_pure0 (ins := .iload_n 2) (len := 1) (loc' := [.ref 38, .int x1, .int y]) (st' := [.int y, .ref 38, .int (y / 10), .ref 38]) (by decide +kernel) (fun _ => rfl)).trans ?_
  refine (R_bipush (n := 10) (v := 10) (by decide +kernel) (by decide +kernel)).trans ?_
  refine (R_irem (x := y) (y := 10) (by decide +kernel) (by decide)).trans ?_
  refine (R_virt (i := 46) (f := 15) (kd := 0) (na := 1) (ml := 2) (ci := 2) (n := 5) (b := 38) (As := [.int (y - y / 10 * 10)]) (rest := [.int (y / 10), .ref 38]) (by decide +kernel) (by decide +kernel) (by decide) (by decide +kernel) rfl (by decide +kernel) rfl rfl (by decide +kernel) (Nat.le_of_ble_eq_true rfl)).trans ?_
  rfl
theorem s28 {L : Nat} {mi : Nat → Nat → Int32} {ml : Nat → Nat → Int64} {d : Nat} {Q : Option Value → xM → Prop} {x1 x2 : Int32} : Xm 28 [.ref 38, .int x1, .int x2] (SH L, mi, ml, MR) d Q =
    X 28 9 [.ref 38, .int x1, .int x2, .long x2.toInt64, xmk, .int 0, .int 0, xmk, xmk] [] (SH L, mi, ml, MR) d Q := by
  rw [Xm_ent (n := 9) (loc := [.ref 38, .int x1, .int x2, xmk, xmk, xmk, xmk, xmk, xmk]) (by decide +kernel) rfl]
  refine (R_pure0 (ins := .iload_n 2) (len := 1) (loc' := [.ref 38, .int x1, .int x2, xmk, xmk, xmk, xmk, xmk, xmk]) (st' := [.int x2]) (by decide +kernel) (fun _ => rfl)).trans ?_
  refine (R_pure0 (ins := .i2l) (len := 1) (loc' := [.ref 38, .int x1, .int x2, xmk, xmk, xmk, xmk, xmk, xmk]) (st' := [.long x2.toInt64]) (by decide +kernel) (fun _ => rfl)).trans ?_
  refine (R_pure0 (ins := .lstore_n 3) (len := 1) (loc' := [.ref 38, .int x1, .int x2, .long x2.toInt64, xmk, xmk, xmk, xmk, xmk]) (st' := []) (by decide +kernel) (fun _ => rfl)).trans ?_
  refine (R_iconst (n := 0) (v := 0) (by decide +kernel) (by decide +kernel)).trans ?_
  refine (R_pure0 (ins := .istore 5) (len := 2) (loc' := [.ref 38, .int x1, .int x2, .long x2.toInt64, xmk, .int 0, xmk, xmk, xmk]) (st' := []) (by decide +kernel) (fun _ => rfl)).trans ?_
  refine (R_iconst (n := 0) (v := 0) (by decide +kernel) (by decide +kernel)).trans ?_
  refine (R_pure0 (ins := .istore 6) (len := 2) (loc' := [.ref 38, .int x1, .int x2, .long x2.toInt64, xmk, .int 0, .int 0, xmk, xmk]) (st' := []) (by decide +kernel) (fun _ => rfl)).trans ?_
  rfl
theorem s28_9 {L : Nat} {mi : Nat → Nat → Int32} {ml : Nat → Nat → Int64} {d : Nat} {Q : Option Value → xM → Prop} {x1 x2 x5 x6 : Int32} {x3 : Int64} (h1 : (x6 < x1) → ((0 : Int32) < (mi 38 2)) → ¬ (mi 38 2).toInt64 = 0) : X 28 9 [.ref 38, .int x1, .int x2, .long x3, xmk, .int x5, .int x6, xmk, xmk] [] (SH L, mi, ml, MR) (d + 1) Q =
    if (x6 < x1) then (if ((0 : Int32) < (mi 38 2)) then (Xm 15 [.ref 38, .int ((((48271 * x3) - (48271 * x3) / 2147483647 * 2147483647) / 8) - (((48271 * x3) - (48271 * x3) / 2147483647 * 2147483647) / 8) / (mi 38 2).toInt64 * (mi 38 2).toInt64).toInt32] (SH L, mi, ml, MR) d (fun v μ' => X 28 52 [.ref 38, .int x1, .int x2, .long ((48271 * x3) - (48271 * x3) / 2147483647 * 2147483647), xmk, .int x5, .int x6, .int ((((48271 * x3) - (48271 * x3) / 2147483647 * 2147483647) / 8) - (((48271 * x3) - (48271 * x3) / 2147483647 * 2147483647) / 8) / (mi 38 2).toInt64 * (mi 38 2).toInt64).toInt32, xmk] (v.toList ++ []) μ' (d + 1) Q)) else (Q (some (.int x5)) (SH L, mi, ml, MR))) else (Q (some (.int x5)) (SH L, mi, ml, MR)) := by
  refine (R_pure0 (ins := .iload 6) (len := 2) (loc' := [.ref 38, .int x1, .int x2, .long x3, xmk, .int x5, .int x6, xmk, xmk]) (st' := [.int x6]) (by decide +kernel) (fun _ => rfl)).trans ?_
  refine (R_pure0 (ins := .iload_n 1) (len := 1) (loc' := [.ref 38, .int x1, .int x2, .long x3, xmk, .int x5, .int x6, xmk, xmk]) (st' := [.int x1, .int x6]) (by decide +kernel) (fun _ => rfl)).trans ?_
  refine (R_icmp_ge (off := 123) (t := 135) (by decide +kernel) (by decide +kernel)).trans (ite_congr rfl (fun c0 => ?_) (fun c0 => ?_))
  · refine (R_pure0 (ins := .aload_n 0) (len := 1) (loc' := [.ref 38, .int x1, .int x2, .long x3, xmk, .int x5, .int x6, xmk, xmk]) (st' := [.ref 38]) (by decide +kernel) (fun _ => rfl)).trans ?_
    refine (R_gi (i := 26) (ci := 2) (k := 2) (n := 5) (by decide +kernel) (by decide +kernel) (by decide) rfl).trans ?_
    refine (R_if_le (off := 116) (t := 135) (by decide +kernel) (by decide +kernel)).trans (ite_congr rfl (fun c1 => ?_) (fun c1 => ?_))
    · refine (R_ldc2 (i := 96) (v := 48271) (by decide +kernel) (by decide +kernel)).trans ?_
      refine (R_pure0 (ins := .lload_n 3) (len := 1) (loc' := [.ref 38, .int x1, .int x2, .long x3, xmk, .int x5, .int x6, xmk, xmk]) (st' := [.long x3, .long 48271]) (by decide +kernel) (fun _ => rfl)).trans ?_
      refine (R_pure0 (ins := .lmul) (len := 1) (loc' := [.ref 38, .int x1, .int x2, .long x3, xmk, .int x5, .int x6, xmk, xmk]) (st' := [.long (48271 * x3)]) (by decide +kernel) (fun _ => rfl)).trans ?_
      refine (R_ldc2 (i := 98) (v := 2147483647) (by decide +kernel) (by decide +kernel)).trans ?_
      refine (R_lrem (x := (48271 * x3)) (y := 2147483647) (by decide +kernel) (by decide)).trans ?_
      refine (R_pure0 (ins := .lstore_n 3) (len := 1) (loc' := [.ref 38, .int x1, .int x2, .long ((48271 * x3) - (48271 * x3) / 2147483647 * 2147483647), xmk, .int x5, .int x6, xmk, xmk]) (st' := []) (by decide +kernel) (fun _ => rfl)).trans ?_
      refine (R_pure0 (ins := .lload_n 3) (len := 1) (loc' := [.ref 38, .int x1, .int x2, .long ((48271 * x3) - (48271 * x3) / 2147483647 * 2147483647), xmk, .int x5, .int x6, xmk, xmk]) (st' := [.long ((48271 * x3) - (48271 * x3) / 2147483647 * 2147483647)]) (by decide +kernel) (fun _ => rfl)).trans ?_
      refine (R_ldc2 (i := 100) (v := 8) (by decide +kernel) (by decide +kernel)).trans ?_
      refine (R_ldiv (x := ((48271 * x3) - (48271 * x3) / 2147483647 * 2147483647)) (y := 8) (by decide +kernel) (by decide)).trans ?_
      refine (R_pure0 (ins := .aload_n 0) (len := 1) (loc' := [.ref 38, .int x1, .int x2, .long ((48271 * x3) - (48271 * x3) / 2147483647 * 2147483647), xmk, .int x5, .int x6, xmk, xmk]) (st' := [.ref 38, .long (((48271 * x3) - (48271 * x3) / 2147483647 * 2147483647) / 8)]) (by decide +kernel) (fun _ => rfl)).trans ?_
      refine (R_gi (i := 26) (ci := 2) (k := 2) (n := 5) (by decide +kernel) (by decide +kernel) (by decide) rfl).trans ?_
      refine (R_pure0 (ins := .i2l) (len := 1) (loc' := [.ref 38, .int x1, .int x2, .long ((48271 * x3) - (48271 * x3) / 2147483647 * 2147483647), xmk, .int x5, .int x6, xmk, xmk]) (st' := [.long (mi 38 2).toInt64, .long (((48271 * x3) - (48271 * x3) / 2147483647 * 2147483647) / 8)]) (by decide +kernel) (fun _ => rfl)).trans ?_
      refine (R_lrem (x := (((48271 * x3) - (48271 * x3) / 2147483647 * 2147483647) / 8)) (y := (mi 38 2).toInt64) (by decide +kernel) (h1 c0 c1)).trans ?_
      refine (R_pure0 (ins := .l2i) (len := 1) (loc' := [.ref 38, .int x1, .int x2, .long ((48271 * x3) - (48271 * x3) / 2147483647 * 2147483647), xmk, .int x5, .int x6, xmk, xmk]) (st' := [.int ((((48271 * x3) - (48271 * x3) / 2147483647 * 2147483647) / 8) - (((48271 * x3) - (48271 * x3) / 2147483647 * 2147483647) / 8) / (mi 38 2).toInt64 * (mi 38 2).toInt64).toInt32]) (by decide +kernel) (fun _ => rfl)).trans ?_
      refine (R_pure0 (ins := .istore 7) (len := 2) (loc' := [.ref 38, .int x1, .int x2, .long ((48271 * x3) - (48271 * x3) / 2147483647 * 2147483647), xmk, .int x5, .int x6, .int ((((48271 * x3) - (48271 * x3) / 2147483647 * 2147483647) / 8) - (((48271 * x3) - (48271 * x3) / 2147483647 * 2147483647) / 8) / (mi 38 2).toInt64 * (mi 38 2).toInt64).toInt32, xmk]) (st' := []) (by decide +kernel) (fun _ => rfl)).trans ?_
      refine (R_pure0 (ins := .aload_n 0) (len := 1) (loc' := [.ref 38, .int x1, .int x2, .long ((48271 * x3) - (48271 * x3) / 2147483647 * 2147483647), xmk, .int x5, .int x6, .int ((((48271 * x3) - (48271 * x3) / 2147483647 * 2147483647) / 8) - (((48271 * x3) - (48271 * x3) / 2147483647 * 2147483647) / 8) / (mi 38 2).toInt64 * (mi 38 2).toInt64).toInt32, xmk]) (st' := [.ref 38]) (by decide +kernel) (fun _ => rfl)).trans ?_
      refine (R_pure0 (ins := .iload 7) (len := 2) (loc' := [.ref 38, .int x1, .int x2, .long ((48271 * x3) - (48271 * x3) / 2147483647 * 2147483647), xmk, .int x5, .int x6, .int ((((48271 * x3) - (48271 * x3) / 2147483647 * 2147483647) / 8) - (((48271 * x3) - (48271 * x3) / 2147483647 * 2147483647) / 8) / (mi 38 2).toInt64 * (mi 38 2).toInt64).toInt32, xmk]) (st' := [.int ((((48271 * x3) - (48271 * x3) / 2147483647 * 2147483647) / 8) - (((48271 * x3) - (48271 * x3) / 2147483647 * 2147483647) / 8) / (mi 38 2).toInt64 * (mi 38 2).toInt64).toInt32, .ref 38]) (by decide +kernel) (fun _ => rfl)).trans ?_
      refine (R_virt (i := 46) (f := 15) (kd := 0) (na := 1) (ml := 2) (ci := 2) (n := 5) (b := 38) (As := [.int ((((48271 * x3) - (48271 * x3) / 2147483647 * 2147483647) / 8) - (((48271 * x3) - (48271 * x3) / 2147483647 * 2147483647) / 8) / (mi 38 2).toInt64 * (mi 38 2).toInt64).toInt32]) (rest := []) (by decide +kernel) (by decide +kernel) (by decide) (by decide +kernel) rfl (by decide +kernel) rfl rfl (by decide +kernel) (Nat.le_of_ble_eq_true rfl)).trans ?_
      rfl
    · refine (R_pure0 (ins := .iload 5) (len := 2) (loc' := [.ref 38, .int x1, .int x2, .long x3, xmk, .int x5, .int x6, xmk, xmk]) (st' := [.int x5]) (by decide +kernel) (fun _ => rfl)).trans ?_
      exact R_ireturn (by decide +kernel) (by decide +kernel)
  · refine (R_pure0 (ins := .iload 5) (len := 2) (loc' := [.ref 38, .int x1, .int x2, .long x3, xmk, .int x5, .int x6, xmk, xmk]) (st' := [.int x5]) (by decide +kernel) (fun _ => rfl)).trans ?_
    exact R_ireturn (by decide +kernel) (by decide +kernel)
theorem s28_52 {L : Nat} {mi : Nat → Nat → Int32} {ml : Nat → Nat → Int64} {d : Nat} {Q : Option Value → xM → Prop} {x1 x2 x5 x6 x7 : Int32} {x3 : Int64} {ry : Nat} (hS_ry : (SH L)[ry]? = some (4, 7)) : X 28 52 [.ref 38, .int x1, .int x2, .long x3, xmk, .int x5, .int x6, .int x7, xmk] [.ref ry] (SH L, mi, ml, MR) (d + 1) Q =
    Xm 57 [.ref ry, .int (mi 38 3)] (SH L, mi, ml, MR) d (fun v μ' => X 28 68 [.ref 38, .int x1, .int x2, .long x3, xmk, .int x5, .int x6, .int x7, .ref ry] (v.toList ++ []) μ' (d + 1) Q) := by
  refine (R_pure0 (ins := .astore 8) (len := 2) (loc' := [.ref 38, .int x1, .int x2, .long x3, xmk, .int x5, .int x6, .int x7, .ref ry]) (st' := []) (by decide +kernel) (fun _ => rfl)).trans ?_
  refine (R_pure0 (ins := .aload 8) (len := 2) (loc' := [.ref 38, .int x1, .int x2, .long x3, xmk, .int x5, .int x6, .int x7, .ref ry]) (st' := [.ref ry]) (by decide +kernel) (fun _ => rfl)).trans ?_
  refine (R_ifnull_r (off := 34) (by decide +kernel)).trans ?_
  refine (R_pure0 (ins := .aload 8) (len := 2) (loc' := [.ref 38, .int x1, .int x2, .long x3, xmk, .int x5, .int x6, .int x7, .ref ry]) (st' := [.ref ry]) (by decide +kernel) (fun _ => rfl)).trans ?_
  refine (R_pure0 (ins := .aload_n 0) (len := 1) (loc' := [.ref 38, .int x1, .int x2, .long x3, xmk, .int x5, .int x6, .int x7, .ref ry]) (st' := [.ref 38, .ref ry]) (by decide +kernel) (fun _ => rfl)).trans ?_
  refine (R_gi (i := 30) (ci := 2) (k := 3) (n := 5) (by decide +kernel) (by decide +kernel) (by decide) rfl).trans ?_
  refine (R_virt (i := 102) (f := 57) (kd := 0) (na := 1) (ml := 2) (ci := 4) (n := 7) (b := ry) (As := [.int (mi 38 3)]) (rest := []) (by decide +kernel) (by decide +kernel) (by decide) (by decide +kernel) rfl (by decide +kernel) hS_ry rfl (by decide +kernel) (Nat.le_of_ble_eq_true rfl)).trans ?_
  rfl
theorem s28_52n {L : Nat} {mi : Nat → Nat → Int32} {ml : Nat → Nat → Int64} {d : Nat} {Q : Option Value → xM → Prop} {x1 x2 x5 x6 x7 : Int32} {x3 : Int64} : X 28 52 [.ref 38, .int x1, .int x2, .long x3, xmk, .int x5, .int x6, .int x7, xmk] [.null] (SH L, mi, ml, MR) (d + 1) Q =
    Xm 23 [.ref 38, .int 0, .int 0] (SH L, mi, ml, MR) d (fun v μ' => X 28 129 [.ref 38, .int x1, .int x2, .long x3, xmk, .int x5, .int x6, .int x7, .null] (v.toList ++ []) μ' (d + 1) Q) := by
  refine (R_pure0 (ins := .astore 8) (len := 2) (loc' := [.ref 38, .int x1, .int x2, .long x3, xmk, .int x5, .int x6, .int x7, .null]) (st' := []) (by decide +kernel) (fun _ => rfl)).trans ?_
  refine (R_pure0 (ins := .aload 8) (len := 2) (loc' := [.ref 38, .int x1, .int x2, .long x3, xmk, .int x5, .int x6, .int x7, .null]) (st' := [.null]) (by decide +kernel) (fun _ => rfl)).trans ?_
  refine (R_ifnull_n (off := 34) (t := 90) (by decide +kernel) (by decide +kernel)).trans ?_
  refine (R_pure0 (ins := .aload 8) (len := 2) (loc' := [.ref 38, .int x1, .int x2, .long x3, xmk, .int x5, .int x6, .int x7, .null]) (st' := [.null]) (by decide +kernel) (fun _ => rfl)).trans ?_
  refine (R_ifnull_n (off := 31) (t := 123) (by decide +kernel) (by decide +kernel)).trans ?_
  refine (R_pure0 (ins := .aload_n 0) (len := 1) (loc' := [.ref 38, .int x1, .int x2, .long x3, xmk, .int x5, .int x6, .int x7, .null]) (st' := [.ref 38]) (by decide +kernel) (fun _ => rfl)).trans ?_
  refine (R_iconst (n := 0) (v := 0) (by decide +kernel) (by decide +kernel)).trans ?_
  refine (R_iconst (n := 0) (v := 0) (by decide +kernel) (by decide +kernel)).trans ?_
  refine (R_virt (i := 105) (f := 23) (kd := 0) (na := 2) (ml := 3) (ci := 2) (n := 5) (b := 38) (As := [.int 0, .int 0]) (rest := []) (by decide +kernel) (by decide +kernel) (by decide) (by decide +kernel) rfl (by decide +kernel) rfl rfl (by decide +kernel) (Nat.le_of_ble_eq_true rfl)).trans ?_
  rfl
theorem s28_68 {L : Nat} {mi : Nat → Nat → Int32} {ml : Nat → Nat → Int64} {d : Nat} {Q : Option Value → xM → Prop} {x1 x2 x5 x6 x7 y : Int32} {x3 : Int64} {r8 : Nat} (hS_r8 : (SH L)[r8]? = some (4, 7)) : X 28 68 [.ref 38, .int x1, .int x2, .long x3, xmk, .int x5, .int x6, .int x7, .ref r8] [.int y] (SH L, mi, ml, MR) (d + 1) Q =
    if ((0 : Int32) < y) then (Xm 23 [.ref 38, .int 2, .int x7] (SH L, mi, ml, MR) d (fun v μ' => X 28 78 [.ref 38, .int x1, .int x2, .long x3, xmk, .int x5, .int x6, .int x7, .ref r8] (v.toList ++ []) μ' (d + 1) Q)) else (Xm 56 [.ref r8] (SH L, mi, ml, MR) d (fun v μ' => X 28 100 [.ref 38, .int x1, .int x2, .long x3, xmk, .int x5, .int x6, .int x7, .ref r8] (v.toList ++ []) μ' (d + 1) Q)) := by
  refine (R_if_le (off := 22) (t := 90) (by decide +kernel) (by decide +kernel)).trans (ite_congr rfl (fun c0 => ?_) (fun c0 => ?_))
  · refine (R_pure0 (ins := .aload_n 0) (len := 1) (loc' := [.ref 38, .int x1, .int x2, .long x3, xmk, .int x5, .int x6, .int x7, .ref r8]) (st' := [.ref 38]) (by decide +kernel) (fun _ => rfl)).trans ?_
    refine (R_iconst (n := 2) (v := 2) (by decide +kernel) (by decide +kernel)).trans ?_
    refine (R_pure0 (ins := .iload 7) (len := 2) (loc' := [.ref 38, .int x1, .int x2, .long x3, xmk, .int x5, .int x6, .int x7, .ref r8]) (st' := [.int x7, .int 2, .ref 38]) (by decide +kernel) (fun _ => rfl)).trans ?_
    refine (R_virt (i := 105) (f := 23) (kd := 0) (na := 2) (ml := 3) (ci := 2) (n := 5) (b := 38) (As := [.int 2, .int x7]) (rest := []) (by decide +kernel) (by decide +kernel) (by decide) (by decide +kernel) rfl (by decide +kernel) rfl rfl (by decide +kernel) (Nat.le_of_ble_eq_true rfl)).trans ?_
    rfl
  · refine (R_pure0 (ins := .aload 8) (len := 2) (loc' := [.ref 38, .int x1, .int x2, .long x3, xmk, .int x5, .int x6, .int x7, .ref r8]) (st' := [.ref r8]) (by decide +kernel) (fun _ => rfl)).trans ?_
    refine (R_ifnull_r (off := 31) (by decide +kernel)).trans ?_
    refine (R_pure0 (ins := .aload 8) (len := 2) (loc' := [.ref 38, .int x1, .int x2, .long x3, xmk, .int x5, .int x6, .int x7, .ref r8]) (st' := [.ref r8]) (by decide +kernel) (fun _ => rfl)).trans ?_
    refine (R_virt (i := 108) (f := 56) (kd := 0) (na := 0) (ml := 1) (ci := 4) (n := 7) (b := r8) (As := []) (rest := []) (by decide +kernel) (by decide +kernel) (by decide) (by decide +kernel) rfl (by decide +kernel) hS_r8 rfl (by decide +kernel) (Nat.le_of_ble_eq_true rfl)).trans ?_
    rfl
theorem s28_129 {L : Nat} {mi : Nat → Nat → Int32} {ml : Nat → Nat → Int64} {d : Nat} {Q : Option Value → xM → Prop} {x1 x2 x5 x6 x7 : Int32} {x3 : Int64} : X 28 129 [.ref 38, .int x1, .int x2, .long x3, xmk, .int x5, .int x6, .int x7, .null] [] (SH L, mi, ml, MR) d Q =
    X 28 9 [.ref 38, .int x1, .int x2, .long x3, xmk, .int x5, .int (x6 + 1), .int x7, .null] [] (SH L, mi, ml, MR) d Q := by
  refine (R_iinc (k := 6) (n := 1) (x := x6) (v := (x6 + 1)) (loc' := [.ref 38, .int x1, .int x2, .long x3, xmk, .int x5, .int (x6 + 1), .int x7, .null]) (by decide +kernel) rfl rfl rfl).trans ?_
  refine (R_goto (off := (-123)) (t := 9) (by decide +kernel) (by decide +kernel)).trans ?_
  rfl
theorem s28_78 {L : Nat} {mi : Nat → Nat → Int32} {ml : Nat → Nat → Int64} {d : Nat} {Q : Option Value → xM → Prop} {x1 x2 x5 x6 x7 : Int32} {x3 : Int64} {r8 : Nat} (hS_r8 : (SH L)[r8]? = some (4, 7)) : X 28 78 [.ref 38, .int x1, .int x2, .long x3, xmk, .int x5, .int x6, .int x7, .ref r8] [] (SH L, mi, ml, MR) d Q =
    X 28 9 [.ref 38, .int x1, .int x2, .long x3, xmk, .int (x5 + (mi 38 4)), .int (x6 + 1), .int x7, .ref r8] [] (SH L, mi, ml, MR) d Q := by
  refine (R_pure0 (ins := .iload 5) (len := 2) (loc' := [.ref 38, .int x1, .int x2, .long x3, xmk, .int x5, .int x6, .int x7, .ref r8]) (st' := [.int x5]) (by decide +kernel) (fun _ => rfl)).trans ?_
  refine (R_pure0 (ins := .aload_n 0) (len := 1) (loc' := [.ref 38, .int x1, .int x2, .long x3, xmk, .int x5, .int x6, .int x7, .ref r8]) (st' := [.ref 38, .int x5]) (by decide +kernel) (fun _ => rfl)).trans ?_
  refine (R_gi (i := 33) (ci := 2) (k := 4) (n := 5) (by decide +kernel) (by decide +kernel) (by decide) rfl).trans ?_
  refine (R_pure0 (ins := .iadd) (len := 1) (loc' := [.ref 38, .int x1, .int x2, .long x3, xmk, .int x5, .int x6, .int x7, .ref r8]) (st' := [.int (x5 + (mi 38 4))]) (by decide +kernel) (fun _ => rfl)).trans ?_
  refine (R_pure0 (ins := .istore 5) (len := 2) (loc' := [.ref 38, .int x1, .int x2, .long x3, xmk, .int (x5 + (mi 38 4)), .int x6, .int x7, .ref r8]) (st' := []) (by decide +kernel) (fun _ => rfl)).trans ?_
  refine (R_goto (off := 42) (t := 129) (by decide +kernel) (by decide +kernel)).trans ?_
  refine (R_iinc (k := 6) (n := 1) (x := x6) (v := (x6 + 1)) (loc' := [.ref 38, .int x1, .int x2, .long x3, xmk, .int (x5 + (mi 38 4)), .int (x6 + 1), .int x7, .ref r8]) (by decide +kernel) rfl rfl rfl).trans ?_
  refine (R_goto (off := (-123)) (t := 9) (by decide +kernel) (by decide +kernel)).trans ?_
  rfl
theorem s28_100 {L : Nat} {mi : Nat → Nat → Int32} {ml : Nat → Nat → Int64} {d : Nat} {Q : Option Value → xM → Prop} {x1 x2 x5 x6 x7 y : Int32} {x3 : Int64} {r8 : Nat} (hS_r8 : (SH L)[r8]? = some (4, 7)) : X 28 100 [.ref 38, .int x1, .int x2, .long x3, xmk, .int x5, .int x6, .int x7, .ref r8] [.int y] (SH L, mi, ml, MR) (d + 1) Q =
    if (y = 0) then (Xm 23 [.ref 38, .int 0, .int 0] (SH L, mi, ml, MR) d (fun v μ' => X 28 129 [.ref 38, .int x1, .int x2, .long x3, xmk, .int x5, .int x6, .int x7, .ref r8] (v.toList ++ []) μ' (d + 1) Q)) else (if ((lg_cmp (x3 - x3 / 3 * 3) 0) = 0) then (Xm 23 [.ref 38, .int 1, .int x7] (SH L, mi, ml, MR) d (fun v μ' => X 28 120 [.ref 38, .int x1, .int x2, .long x3, xmk, .int x5, .int x6, .int x7, .ref r8] (v.toList ++ []) μ' (d + 1) Q)) else (Xm 23 [.ref 38, .int 0, .int 0] (SH L, mi, ml, MR) d (fun v μ' => X 28 129 [.ref 38, .int x1, .int x2, .long x3, xmk, .int x5, .int x6, .int x7, .ref r8] (v.toList ++ []) μ' (d + 1) Q))) := by
  refine (R_if_eq (off := 23) (t := 123) (by decide +kernel) (by decide +kernel)).trans (ite_congr rfl (fun c0 => ?_) (fun c0 => ?_))
  · refine (R_pure0 (ins := .aload_n 0) (len := 1) (loc' := [.ref 38, .int x1, .int x2, .long x3, xmk, .int x5, .int x6, .int x7, .ref r8]) (st' := [.ref 38]) (by decide +kernel) (fun _ => rfl)).trans ?_
    refine (R_iconst (n := 0) (v := 0) (by decide +kernel) (by decide +kernel)).trans ?_
    refine (R_iconst (n := 0) (v := 0) (by decide +kernel) (by decide +kernel)).trans ?_
    refine (R_virt (i := 105) (f := 23) (kd := 0) (na := 2) (ml := 3) (ci := 2) (n := 5) (b := 38) (As := [.int 0, .int 0]) (rest := []) (by decide +kernel) (by decide +kernel) (by decide) (by decide +kernel) rfl (by decide +kernel) rfl rfl (by decide +kernel) (Nat.le_of_ble_eq_true rfl)).trans ?_
    rfl
  · refine (R_pure0 (ins := .lload_n 3) (len := 1) (loc' := [.ref 38, .int x1, .int x2, .long x3, xmk, .int x5, .int x6, .int x7, .ref r8]) (st' := [.long x3]) (by decide +kernel) (fun _ => rfl)).trans ?_
    refine (R_ldc2 (i := 112) (v := 3) (by decide +kernel) (by decide +kernel)).trans ?_
    refine (R_lrem (x := x3) (y := 3) (by decide +kernel) (by decide)).trans ?_
    refine (R_lconst (n := 0) (v := 0) (by decide +kernel) (by decide +kernel)).trans ?_
    refine (R_pure0 (ins := .lcmp) (len := 1) (loc' := [.ref 38, .int x1, .int x2, .long x3, xmk, .int x5, .int x6, .int x7, .ref r8]) (st' := [.int (lg_cmp (x3 - x3 / 3 * 3) 0)]) (by decide +kernel) (fun _ => rfl)).trans ?_
    refine (R_if_ne (off := 13) (t := 123) (by decide +kernel) (by decide +kernel)).trans (ite_congr rfl (fun c1 => ?_) (fun c1 => ?_))
    · refine (R_pure0 (ins := .aload_n 0) (len := 1) (loc' := [.ref 38, .int x1, .int x2, .long x3, xmk, .int x5, .int x6, .int x7, .ref r8]) (st' := [.ref 38]) (by decide +kernel) (fun _ => rfl)).trans ?_
      refine (R_iconst (n := 1) (v := 1) (by decide +kernel) (by decide +kernel)).trans ?_
      refine (R_pure0 (ins := .iload 7) (len := 2) (loc' := [.ref 38, .int x1, .int x2, .long x3, xmk, .int x5, .int x6, .int x7, .ref r8]) (st' := [.int x7, .int 1, .ref 38]) (by decide +kernel) (fun _ => rfl)).trans ?_
      refine (R_virt (i := 105) (f := 23) (kd := 0) (na := 2) (ml := 3) (ci := 2) (n := 5) (b := 38) (As := [.int 1, .int x7]) (rest := []) (by decide +kernel) (by decide +kernel) (by decide) (by decide +kernel) rfl (by decide +kernel) rfl rfl (by decide +kernel) (Nat.le_of_ble_eq_true rfl)).trans ?_
      rfl
    · refine (R_pure0 (ins := .aload_n 0) (len := 1) (loc' := [.ref 38, .int x1, .int x2, .long x3, xmk, .int x5, .int x6, .int x7, .ref r8]) (st' := [.ref 38]) (by decide +kernel) (fun _ => rfl)).trans ?_
      refine (R_iconst (n := 0) (v := 0) (by decide +kernel) (by decide +kernel)).trans ?_
      refine (R_iconst (n := 0) (v := 0) (by decide +kernel) (by decide +kernel)).trans ?_
      refine (R_virt (i := 105) (f := 23) (kd := 0) (na := 2) (ml := 3) (ci := 2) (n := 5) (b := 38) (As := [.int 0, .int 0]) (rest := []) (by decide +kernel) (by decide +kernel) (by decide) (by decide +kernel) rfl (by decide +kernel) rfl rfl (by decide +kernel) (Nat.le_of_ble_eq_true rfl)).trans ?_
      rfl
theorem s28_9v2 {L : Nat} {mi : Nat → Nat → Int32} {ml : Nat → Nat → Int64} {d : Nat} {Q : Option Value → xM → Prop} {x1 x2 x5 x6 x7 : Int32} {x3 : Int64} (h1 : (x6 < x1) → ((0 : Int32) < (mi 38 2)) → ¬ (mi 38 2).toInt64 = 0) : X 28 9 [.ref 38, .int x1, .int x2, .long x3, xmk, .int x5, .int x6, .int x7, .null] [] (SH L, mi, ml, MR) (d + 1) Q =
    if (x6 < x1) then (if ((0 : Int32) < (mi 38 2)) then (Xm 15 [.ref 38, .int ((((48271 * x3) - (48271 * x3) / 2147483647 * 2147483647) / 8) - (((48271 * x3) - (48271 * x3) / 2147483647 * 2147483647) / 8) / (mi 38 2).toInt64 * (mi 38 2).toInt64).toInt32] (SH L, mi, ml, MR) d (fun v μ' => X 28 52 [.ref 38, .int x1, .int x2, .long ((48271 * x3) - (48271 * x3) / 2147483647 * 2147483647), xmk, .int x5, .int x6, .int ((((48271 * x3) - (48271 * x3) / 2147483647 * 2147483647) / 8) - (((48271 * x3) - (48271 * x3) / 2147483647 * 2147483647) / 8) / (mi 38 2).toInt64 * (mi 38 2).toInt64).toInt32, .null] (v.toList ++ []) μ' (d + 1) Q)) else (Q (some (.int x5)) (SH L, mi, ml, MR))) else (Q (some (.int x5)) (SH L, mi, ml, MR)) := by
  refine (R_pure0 (ins := .iload 6) (len := 2) (loc' := [.ref 38, .int x1, .int x2, .long x3, xmk, .int x5, .int x6, .int x7, .null]) (st' := [.int x6]) (by decide +kernel) (fun _ => rfl)).trans ?_
  refine (R_pure0 (ins := .iload_n 1) (len := 1) (loc' := [.ref 38, .int x1, .int x2, .long x3, xmk, .int x5, .int x6, .int x7, .null]) (st' := [.int x1, .int x6]) (by decide +kernel) (fun _ => rfl)).trans ?_
  refine (R_icmp_ge (off := 123) (t := 135) (by decide +kernel) (by decide +kernel)).trans (ite_congr rfl (fun c0 => ?_) (fun c0 => ?_))
  · refine (R_pure0 (ins := .aload_n 0) (len := 1) (loc' := [.ref 38, .int x1, .int x2, .long x3, xmk, .int x5, .int x6, .int x7, .null]) (st' := [.ref 38]) (by decide +kernel) (fun _ => rfl)).trans ?_
    refine (R_gi (i := 26) (ci := 2) (k := 2) (n := 5) (by decide +kernel) (by decide +kernel) (by decide) rfl).trans ?_
    refine (R_if_le (off := 116) (t := 135) (by decide +kernel) (by decide +kernel)).trans (ite_congr rfl (fun c1 => ?_) (fun c1 => ?_))
    · refine (R_ldc2 (i := 96) (v := 48271) (by decide +kernel) (by decide +kernel)).trans ?_
      refine (R_pure0 (ins := .lload_n 3) (len := 1) (loc' := [.ref 38, .int x1, .int x2, .long x3, xmk, .int x5, .int x6, .int x7, .null]) (st' := [.long x3, .long 48271]) (by decide +kernel) (fun _ => rfl)).trans ?_
      refine (R_pure0 (ins := .lmul) (len := 1) (loc' := [.ref 38, .int x1, .int x2, .long x3, xmk, .int x5, .int x6, .int x7, .null]) (st' := [.long (48271 * x3)]) (by decide +kernel) (fun _ => rfl)).trans ?_
      refine (R_ldc2 (i := 98) (v := 2147483647) (by decide +kernel) (by decide +kernel)).trans ?_
      refine (R_lrem (x := (48271 * x3)) (y := 2147483647) (by decide +kernel) (by decide)).trans ?_
      refine (R_pure0 (ins := .lstore_n 3) (len := 1) (loc' := [.ref 38, .int x1, .int x2, .long ((48271 * x3) - (48271 * x3) / 2147483647 * 2147483647), xmk, .int x5, .int x6, .int x7, .null]) (st' := []) (by decide +kernel) (fun _ => rfl)).trans ?_
      refine (R_pure0 (ins := .lload_n 3) (len := 1) (loc' := [.ref 38, .int x1, .int x2, .long ((48271 * x3) - (48271 * x3) / 2147483647 * 2147483647), xmk, .int x5, .int x6, .int x7, .null]) (st' := [.long ((48271 * x3) - (48271 * x3) / 2147483647 * 2147483647)]) (by decide +kernel) (fun _ => rfl)).trans ?_
      refine (R_ldc2 (i := 100) (v := 8) (by decide +kernel) (by decide +kernel)).trans ?_
      refine (R_ldiv (x := ((48271 * x3) - (48271 * x3) / 2147483647 * 2147483647)) (y := 8) (by decide +kernel) (by decide)).trans ?_
      refine (R_pure0 (ins := .aload_n 0) (len := 1) (loc' := [.ref 38, .int x1, .int x2, .long ((48271 * x3) - (48271 * x3) / 2147483647 * 2147483647), xmk, .int x5, .int x6, .int x7, .null]) (st' := [.ref 38, .long (((48271 * x3) - (48271 * x3) / 2147483647 * 2147483647) / 8)]) (by decide +kernel) (fun _ => rfl)).trans ?_
      refine (R_gi (i := 26) (ci := 2) (k := 2) (n := 5) (by decide +kernel) (by decide +kernel) (by decide) rfl).trans ?_
      refine (R_pure0 (ins := .i2l) (len := 1) (loc' := [.ref 38, .int x1, .int x2, .long ((48271 * x3) - (48271 * x3) / 2147483647 * 2147483647), xmk, .int x5, .int x6, .int x7, .null]) (st' := [.long (mi 38 2).toInt64, .long (((48271 * x3) - (48271 * x3) / 2147483647 * 2147483647) / 8)]) (by decide +kernel) (fun _ => rfl)).trans ?_
      refine (R_lrem (x := (((48271 * x3) - (48271 * x3) / 2147483647 * 2147483647) / 8)) (y := (mi 38 2).toInt64) (by decide +kernel) (h1 c0 c1)).trans ?_
      refine (R_pure0 (ins := .l2i) (len := 1) (loc' := [.ref 38, .int x1, .int x2, .long ((48271 * x3) - (48271 * x3) / 2147483647 * 2147483647), xmk, .int x5, .int x6, .int x7, .null]) (st' := [.int ((((48271 * x3) - (48271 * x3) / 2147483647 * 2147483647) / 8) - (((48271 * x3) - (48271 * x3) / 2147483647 * 2147483647) / 8) / (mi 38 2).toInt64 * (mi 38 2).toInt64).toInt32]) (by decide +kernel) (fun _ => rfl)).trans ?_
      refine (R_pure0 (ins := .istore 7) (len := 2) (loc' := [.ref 38, .int x1, .int x2, .long ((48271 * x3) - (48271 * x3) / 2147483647 * 2147483647), xmk, .int x5, .int x6, .int ((((48271 * x3) - (48271 * x3) / 2147483647 * 2147483647) / 8) - (((48271 * x3) - (48271 * x3) / 2147483647 * 2147483647) / 8) / (mi 38 2).toInt64 * (mi 38 2).toInt64).toInt32, .null]) (st' := []) (by decide +kernel) (fun _ => rfl)).trans ?_
      refine (R_pure0 (ins := .aload_n 0) (len := 1) (loc' := [.ref 38, .int x1, .int x2, .long ((48271 * x3) - (48271 * x3) / 2147483647 * 2147483647), xmk, .int x5, .int x6, .int ((((48271 * x3) - (48271 * x3) / 2147483647 * 2147483647) / 8) - (((48271 * x3) - (48271 * x3) / 2147483647 * 2147483647) / 8) / (mi 38 2).toInt64 * (mi 38 2).toInt64).toInt32, .null]) (st' := [.ref 38]) (by decide +kernel) (fun _ => rfl)).trans ?_
      refine (R_pure0 (ins := .iload 7) (len := 2) (loc' := [.ref 38, .int x1, .int x2, .long ((48271 * x3) - (48271 * x3) / 2147483647 * 2147483647), xmk, .int x5, .int x6, .int ((((48271 * x3) - (48271 * x3) / 2147483647 * 2147483647) / 8) - (((48271 * x3) - (48271 * x3) / 2147483647 * 2147483647) / 8) / (mi 38 2).toInt64 * (mi 38 2).toInt64).toInt32, .null]) (st' := [.int ((((48271 * x3) - (48271 * x3) / 2147483647 * 2147483647) / 8) - (((48271 * x3) - (48271 * x3) / 2147483647 * 2147483647) / 8) / (mi 38 2).toInt64 * (mi 38 2).toInt64).toInt32, .ref 38]) (by decide +kernel) (fun _ => rfl)).trans ?_
      refine (R_virt (i := 46) (f := 15) (kd := 0) (na := 1) (ml := 2) (ci := 2) (n := 5) (b := 38) (As := [.int ((((48271 * x3) - (48271 * x3) / 2147483647 * 2147483647) / 8) - (((48271 * x3) - (48271 * x3) / 2147483647 * 2147483647) / 8) / (mi 38 2).toInt64 * (mi 38 2).toInt64).toInt32]) (rest := []) (by decide +kernel) (by decide +kernel) (by decide) (by decide +kernel) rfl (by decide +kernel) rfl rfl (by decide +kernel) (Nat.le_of_ble_eq_true rfl)).trans ?_
      rfl
    · refine (R_pure0 (ins := .iload 5) (len := 2) (loc' := [.ref 38, .int x1, .int x2, .long x3, xmk, .int x5, .int x6, .int x7, .null]) (st' := [.int x5]) (by decide +kernel) (fun _ => rfl)).trans ?_
      exact R_ireturn (by decide +kernel) (by decide +kernel)
  · refine (R_pure0 (ins := .iload 5) (len := 2) (loc' := [.ref 38, .int x1, .int x2, .long x3, xmk, .int x5, .int x6, .int x7, .null]) (st' := [.int x5]) (by decide +kernel) (fun _ => rfl)).trans ?_
    exact R_ireturn (by decide +kernel) (by decide +kernel)
theorem s28_9v3 {L : Nat} {mi : Nat → Nat → Int32} {ml : Nat → Nat → Int64} {d : Nat} {Q : Option Value → xM → Prop} {x1 x2 x5 x6 x7 : Int32} {x3 : Int64} {r8 : Nat} (hS_r8 : (SH L)[r8]? = some (4, 7)) (h1 : (x6 < x1) → ((0 : Int32) < (mi 38 2)) → ¬ (mi 38 2).toInt64 = 0) : X 28 9 [.ref 38, .int x1, .int x2, .long x3, xmk, .int x5, .int x6, .int x7, .ref r8] [] (SH L, mi, ml, MR) (d + 1) Q =
    if (x6 < x1) then (if ((0 : Int32) < (mi 38 2)) then (Xm 15 [.ref 38, .int ((((48271 * x3) - (48271 * x3) / 2147483647 * 2147483647) / 8) - (((48271 * x3) - (48271 * x3) / 2147483647 * 2147483647) / 8) / (mi 38 2).toInt64 * (mi 38 2).toInt64).toInt32] (SH L, mi, ml, MR) d (fun v μ' => X 28 52 [.ref 38, .int x1, .int x2, .long ((48271 * x3) - (48271 * x3) / 2147483647 * 2147483647), xmk, .int x5, .int x6, .int ((((48271 * x3) - (48271 * x3) / 2147483647 * 2147483647) / 8) - (((48271 * x3) - (48271 * x3) / 2147483647 * 2147483647) / 8) / (mi 38 2).toInt64 * (mi 38 2).toInt64).toInt32, .ref r8] (v.toList ++ []) μ' (d + 1) Q)) else (Q (some (.int x5)) (SH L, mi, ml, MR))) else (Q (some (.int x5)) (SH L, mi, ml, MR)) := by
  refine (R_pure0 (ins := .iload 6) (len := 2) (loc' := [.ref 38, .int x1, .int x2, .long x3, xmk, .int x5, .int x6, .int x7, .ref r8]) (st' := [.int x6]) (by decide +kernel) (fun _ => rfl)).trans ?_
  refine (R_pure0 (ins := .iload_n 1) (len := 1) (loc' := [.ref 38, .int x1, .int x2, .long x3, xmk, .int x5, .int x6, .int x7, .ref r8]) (st' := [.int x1, .int x6]) (by decide +kernel) (fun _ => rfl)).trans ?_
  refine (R_icmp_ge (off := 123) (t := 135) (by decide +kernel) (by decide +kernel)).trans (ite_congr rfl (fun c0 => ?_) (fun c0 => ?_))
  · refine (R_pure0 (ins := .aload_n 0) (len := 1) (loc' := [.ref 38, .int x1, .int x2, .long x3, xmk, .int x5, .int x6, .int x7, .ref r8]) (st' := [.ref 38]) (by decide +kernel) (fun _ => rfl)).trans ?_
    refine (R_gi (i := 26) (ci := 2) (k := 2) (n := 5) (by decide +kernel) (by decide +kernel) (by decide) rfl).trans ?_
    refine (R_if_le (off := 116) (t := 135) (by decide +kernel) (by decide +kernel)).trans (ite_congr rfl (fun c1 => ?_) (fun c1 => ?_))
    · refine (R_ldc2 (i := 96) (v := 48271) (by decide +kernel) (by decide +kernel)).trans ?_
      refine (R_pure0 (ins := .lload_n 3) (len := 1) (loc' := [.ref 38, .int x1, .int x2, .long x3, xmk, .int x5, .int x6, .int x7, .ref r8]) (st' := [.long x3, .long 48271]) (by decide +kernel) (fun _ => rfl)).trans ?_
      refine (R_pure0 (ins := .lmul) (len := 1) (loc' := [.ref 38, .int x1, .int x2, .long x3, xmk, .int x5, .int x6, .int x7, .ref r8]) (st' := [.long (48271 * x3)]) (by decide +kernel) (fun _ => rfl)).trans ?_
      refine (R_ldc2 (i := 98) (v := 2147483647) (by decide +kernel) (by decide +kernel)).trans ?_
      refine (R_lrem (x := (48271 * x3)) (y := 2147483647) (by decide +kernel) (by decide)).trans ?_
      refine (R_pure0 (ins := .lstore_n 3) (len := 1) (loc' := [.ref 38, .int x1, .int x2, .long ((48271 * x3) - (48271 * x3) / 2147483647 * 2147483647), xmk, .int x5, .int x6, .int x7, .ref r8]) (st' := []) (by decide +kernel) (fun _ => rfl)).trans ?_
      refine (R_pure0 (ins := .lload_n 3) (len := 1) (loc' := [.ref 38, .int x1, .int x2, .long ((48271 * x3) - (48271 * x3) / 2147483647 * 2147483647), xmk, .int x5, .int x6, .int x7, .ref r8]) (st' := [.long ((48271 * x3) - (48271 * x3) / 2147483647 * 2147483647)]) (by decide +kernel) (fun _ => rfl)).trans ?_
      refine (R_ldc2 (i := 100) (v := 8) (by decide +kernel) (by decide +kernel)).trans ?_
      refine (R_ldiv (x := ((48271 * x3) - (48271 * x3) / 2147483647 * 2147483647)) (y := 8) (by decide +kernel) (by decide)).trans ?_
      refine (R_pure0 (ins := .aload_n 0) (len := 1) (loc' := [.ref 38, .int x1, .int x2, .long ((48271 * x3) - (48271 * x3) / 2147483647 * 2147483647), xmk, .int x5, .int x6, .int x7, .ref r8]) (st' := [.ref 38, .long (((48271 * x3) - (48271 * x3) / 2147483647 * 2147483647) / 8)]) (by decide +kernel) (fun _ => rfl)).trans ?_
      refine (R_gi (i := 26) (ci := 2) (k := 2) (n := 5) (by decide +kernel) (by decide +kernel) (by decide) rfl).trans ?_
      refine (R_pure0 (ins := .i2l) (len := 1) (loc' := [.ref 38, .int x1, .int x2, .long ((48271 * x3) - (48271 * x3) / 2147483647 * 2147483647), xmk, .int x5, .int x6, .int x7, .ref r8]) (st' := [.long (mi 38 2).toInt64, .long (((48271 * x3) - (48271 * x3) / 2147483647 * 2147483647) / 8)]) (by decide +kernel) (fun _ => rfl)).trans ?_
      refine (R_lrem (x := (((48271 * x3) - (48271 * x3) / 2147483647 * 2147483647) / 8)) (y := (mi 38 2).toInt64) (by decide +kernel) (h1 c0 c1)).trans ?_
      refine (R_pure0 (ins := .l2i) (len := 1) (loc' := [.ref 38, .int x1, .int x2, .long ((48271 * x3) - (48271 * x3) / 2147483647 * 2147483647), xmk, .int x5, .int x6, .int x7, .ref r8]) (st' := [.int ((((48271 * x3) - (48271 * x3) / 2147483647 * 2147483647) / 8) - (((48271 * x3) - (48271 * x3) / 2147483647 * 2147483647) / 8) / (mi 38 2).toInt64 * (mi 38 2).toInt64).toInt32]) (by decide +kernel) (fun _ => rfl)).trans ?_
      refine (R_pure0 (ins := .istore 7) (len := 2) (loc' := [.ref 38, .int x1, .int x2, .long ((48271 * x3) - (48271 * x3) / 2147483647 * 2147483647), xmk, .int x5, .int x6, .int ((((48271 * x3) - (48271 * x3) / 2147483647 * 2147483647) / 8) - (((48271 * x3) - (48271 * x3) / 2147483647 * 2147483647) / 8) / (mi 38 2).toInt64 * (mi 38 2).toInt64).toInt32, .ref r8]) (st' := []) (by decide +kernel) (fun _ => rfl)).trans ?_
      refine (R_pure0 (ins := .aload_n 0) (len := 1) (loc' := [.ref 38, .int x1, .int x2, .long ((48271 * x3) - (48271 * x3) / 2147483647 * 2147483647), xmk, .int x5, .int x6, .int ((((48271 * x3) - (48271 * x3) / 2147483647 * 2147483647) / 8) - (((48271 * x3) - (48271 * x3) / 2147483647 * 2147483647) / 8) / (mi 38 2).toInt64 * (mi 38 2).toInt64).toInt32, .ref r8]) (st' := [.ref 38]) (by decide +kernel) (fun _ => rfl)).trans ?_
      refine (R_pure0 (ins := .iload 7) (len := 2) (loc' := [.ref 38, .int x1, .int x2, .long ((48271 * x3) - (48271 * x3) / 2147483647 * 2147483647), xmk, .int x5, .int x6, .int ((((48271 * x3) - (48271 * x3) / 2147483647 * 2147483647) / 8) - (((48271 * x3) - (48271 * x3) / 2147483647 * 2147483647) / 8) / (mi 38 2).toInt64 * (mi 38 2).toInt64).toInt32, .ref r8]) (st' := [.int ((((48271 * x3) - (48271 * x3) / 2147483647 * 2147483647) / 8) - (((48271 * x3) - (48271 * x3) / 2147483647 * 2147483647) / 8) / (mi 38 2).toInt64 * (mi 38 2).toInt64).toInt32, .ref 38]) (by decide +kernel) (fun _ => rfl)).trans ?_
      refine (R_virt (i := 46) (f := 15) (kd := 0) (na := 1) (ml := 2) (ci := 2) (n := 5) (b := 38) (As := [.int ((((48271 * x3) - (48271 * x3) / 2147483647 * 2147483647) / 8) - (((48271 * x3) - (48271 * x3) / 2147483647 * 2147483647) / 8) / (mi 38 2).toInt64 * (mi 38 2).toInt64).toInt32]) (rest := []) (by decide +kernel) (by decide +kernel) (by decide) (by decide +kernel) rfl (by decide +kernel) rfl rfl (by decide +kernel) (Nat.le_of_ble_eq_true rfl)).trans ?_
      rfl
    · refine (R_pure0 (ins := .iload 5) (len := 2) (loc' := [.ref 38, .int x1, .int x2, .long x3, xmk, .int x5, .int x6, .int x7, .ref r8]) (st' := [.int x5]) (by decide +kernel) (fun _ => rfl)).trans ?_
      exact R_ireturn (by decide +kernel) (by decide +kernel)
  · refine (R_pure0 (ins := .iload 5) (len := 2) (loc' := [.ref 38, .int x1, .int x2, .long x3, xmk, .int x5, .int x6, .int x7, .ref r8]) (st' := [.int x5]) (by decide +kernel) (fun _ => rfl)).trans ?_
    exact R_ireturn (by decide +kernel) (by decide +kernel)
theorem s28_129v2 {L : Nat} {mi : Nat → Nat → Int32} {ml : Nat → Nat → Int64} {d : Nat} {Q : Option Value → xM → Prop} {x1 x2 x5 x6 x7 : Int32} {x3 : Int64} {r8 : Nat} (hS_r8 : (SH L)[r8]? = some (4, 7)) : X 28 129 [.ref 38, .int x1, .int x2, .long x3, xmk, .int x5, .int x6, .int x7, .ref r8] [] (SH L, mi, ml, MR) d Q =
    X 28 9 [.ref 38, .int x1, .int x2, .long x3, xmk, .int x5, .int (x6 + 1), .int x7, .ref r8] [] (SH L, mi, ml, MR) d Q := by
  refine (R_iinc (k := 6) (n := 1) (x := x6) (v := (x6 + 1)) (loc' := [.ref 38, .int x1, .int x2, .long x3, xmk, .int x5, .int (x6 + 1), .int x7, .ref r8]) (by decide +kernel) rfl rfl rfl).trans ?_
  refine (R_goto (off := (-123)) (t := 9) (by decide +kernel) (by decide +kernel)).trans ?_
  rfl
theorem s28_120 {L : Nat} {mi : Nat → Nat → Int32} {ml : Nat → Nat → Int64} {d : Nat} {Q : Option Value → xM → Prop} {x1 x2 x5 x6 x7 : Int32} {x3 : Int64} {r8 : Nat} (hS_r8 : (SH L)[r8]? = some (4, 7)) : X 28 120 [.ref 38, .int x1, .int x2, .long x3, xmk, .int x5, .int x6, .int x7, .ref r8] [] (SH L, mi, ml, MR) d Q =
    X 28 9 [.ref 38, .int x1, .int x2, .long x3, xmk, .int x5, .int (x6 + 1), .int x7, .ref r8] [] (SH L, mi, ml, MR) d Q := by
  refine (R_goto (off := 9) (t := 129) (by decide +kernel) (by decide +kernel)).trans ?_
  refine (R_iinc (k := 6) (n := 1) (x := x6) (v := (x6 + 1)) (loc' := [.ref 38, .int x1, .int x2, .long x3, xmk, .int x5, .int (x6 + 1), .int x7, .ref r8]) (by decide +kernel) rfl rfl rfl).trans ?_
  refine (R_goto (off := (-123)) (t := 9) (by decide +kernel) (by decide +kernel)).trans ?_
  rfl
theorem s28_52v2 {L : Nat} {mi : Nat → Nat → Int32} {ml : Nat → Nat → Int64} {d : Nat} {Q : Option Value → xM → Prop} {x1 x2 x5 x6 x7 : Int32} {x3 : Int64} {ry : Nat} (hS_ry : (SH L)[ry]? = some (4, 7)) : X 28 52 [.ref 38, .int x1, .int x2, .long x3, xmk, .int x5, .int x6, .int x7, .null] [.ref ry] (SH L, mi, ml, MR) (d + 1) Q =
    Xm 57 [.ref ry, .int (mi 38 3)] (SH L, mi, ml, MR) d (fun v μ' => X 28 68 [.ref 38, .int x1, .int x2, .long x3, xmk, .int x5, .int x6, .int x7, .ref ry] (v.toList ++ []) μ' (d + 1) Q) := by
  refine (R_pure0 (ins := .astore 8) (len := 2) (loc' := [.ref 38, .int x1, .int x2, .long x3, xmk, .int x5, .int x6, .int x7, .ref ry]) (st' := []) (by decide +kernel) (fun _ => rfl)).trans ?_
  refine (R_pure0 (ins := .aload 8) (len := 2) (loc' := [.ref 38, .int x1, .int x2, .long x3, xmk, .int x5, .int x6, .int x7, .ref ry]) (st' := [.ref ry]) (by decide +kernel) (fun _ => rfl)).trans ?_
  refine (R_ifnull_r (off := 34) (by decide +kernel)).trans ?_
  refine (R_pure0 (ins := .aload 8) (len := 2) (loc' := [.ref 38, .int x1, .int x2, .long x3, xmk, .int x5, .int x6, .int x7, .ref ry]) (st' := [.ref ry]) (by decide +kernel) (fun _ => rfl)).trans ?_
  refine (R_pure0 (ins := .aload_n 0) (len := 1) (loc' := [.ref 38, .int x1, .int x2, .long x3, xmk, .int x5, .int x6, .int x7, .ref ry]) (st' := [.ref 38, .ref ry]) (by decide +kernel) (fun _ => rfl)).trans ?_
  refine (R_gi (i := 30) (ci := 2) (k := 3) (n := 5) (by decide +kernel) (by decide +kernel) (by decide) rfl).trans ?_
  refine (R_virt (i := 102) (f := 57) (kd := 0) (na := 1) (ml := 2) (ci := 4) (n := 7) (b := ry) (As := [.int (mi 38 3)]) (rest := []) (by decide +kernel) (by decide +kernel) (by decide) (by decide +kernel) rfl (by decide +kernel) hS_ry rfl (by decide +kernel) (Nat.le_of_ble_eq_true rfl)).trans ?_
  rfl
theorem s28_52nv2 {L : Nat} {mi : Nat → Nat → Int32} {ml : Nat → Nat → Int64} {d : Nat} {Q : Option Value → xM → Prop} {x1 x2 x5 x6 x7 : Int32} {x3 : Int64} : X 28 52 [.ref 38, .int x1, .int x2, .long x3, xmk, .int x5, .int x6, .int x7, .null] [.null] (SH L, mi, ml, MR) (d + 1) Q =
    Xm 23 [.ref 38, .int 0, .int 0] (SH L, mi, ml, MR) d (fun v μ' => X 28 129 [.ref 38, .int x1, .int x2, .long x3, xmk, .int x5, .int x6, .int x7, .null] (v.toList ++ []) μ' (d + 1) Q) := by
  refine (R_pure0 (ins := .astore 8) (len := 2) (loc' := [.ref 38, .int x1, .int x2, .long x3, xmk, .int x5, .int x6, .int x7, .null]) (st' := []) (by decide +kernel) (fun _ => rfl)).trans ?_
  refine (R_pure0 (ins := .aload 8) (len := 2) (loc' := [.ref 38, .int x1, .int x2, .long x3, xmk, .int x5, .int x6, .int x7, .null]) (st' := [.null]) (by decide +kernel) (fun _ => rfl)).trans ?_
  refine (R_ifnull_n (off := 34) (t := 90) (by decide +kernel) (by decide +kernel)).trans ?_
  refine (R_pure0 (ins := .aload 8) (len := 2) (loc' := [.ref 38, .int x1, .int x2, .long x3, xmk, .int x5, .int x6, .int x7, .null]) (st' := [.null]) (by decide +kernel) (fun _ => rfl)).trans ?_
  refine (R_ifnull_n (off := 31) (t := 123) (by decide +kernel) (by decide +kernel)).trans ?_
  refine (R_pure0 (ins := .aload_n 0) (len := 1) (loc' := [.ref 38, .int x1, .int x2, .long x3, xmk, .int x5, .int x6, .int x7, .null]) (st' := [.ref 38]) (by decide +kernel) (fun _ => rfl)).trans ?_
  refine (R_iconst (n := 0) (v := 0) (by decide +kernel) (by decide +kernel)).trans ?_
  refine (R_iconst (n := 0) (v := 0) (by decide +kernel) (by decide +kernel)).trans ?_
  refine (R_virt (i := 105) (f := 23) (kd := 0) (na := 2) (ml := 3) (ci := 2) (n := 5) (b := 38) (As := [.int 0, .int 0]) (rest := []) (by decide +kernel) (by decide +kernel) (by decide) (by decide +kernel) rfl (by decide +kernel) rfl rfl (by decide +kernel) (Nat.le_of_ble_eq_true rfl)).trans ?_
  rfl
theorem s28_52v3 {L : Nat} {mi : Nat → Nat → Int32} {ml : Nat → Nat → Int64} {d : Nat} {Q : Option Value → xM → Prop} {x1 x2 x5 x6 x7 : Int32} {x3 : Int64} {r8 ry : Nat} (hS_r8 : (SH L)[r8]? = some (4, 7)) (hS_ry : (SH L)[ry]? = some (4, 7)) : X 28 52 [.ref 38, .int x1, .int x2, .long x3, xmk, .int x5, .int x6, .int x7, .ref r8] [.ref ry] (SH L, mi, ml, MR) (d + 1) Q =
    Xm 57 [.ref ry, .int (mi 38 3)] (SH L, mi, ml, MR) d (fun v μ' => X 28 68 [.ref 38, .int x1, .int x2, .long x3, xmk, .int x5, .int x6, .int x7, .ref ry] (v.toList ++ []) μ' (d + 1) Q) := by
  refine (R_pure0 (ins := .astore 8) (len := 2) (loc' := [.ref 38, .int x1, .int x2, .long x3, xmk, .int x5, .int x6, .int x7, .ref ry]) (st' := []) (by decide +kernel) (fun _ => rfl)).trans ?_
  refine (R_pure0 (ins := .aload 8) (len := 2) (loc' := [.ref 38, .int x1, .int x2, .long x3, xmk, .int x5, .int x6, .int x7, .ref ry]) (st' := [.ref ry]) (by decide +kernel) (fun _ => rfl)).trans ?_
  refine (R_ifnull_r (off := 34) (by decide +kernel)).trans ?_
  refine (R_pure0 (ins := .aload 8) (len := 2) (loc' := [.ref 38, .int x1, .int x2, .long x3, xmk, .int x5, .int x6, .int x7, .ref ry]) (st' := [.ref ry]) (by decide +kernel) (fun _ => rfl)).trans ?_
  refine (R_pure0 (ins := .aload_n 0) (len := 1) (loc' := [.ref 38, .int x1, .int x2, .long x3, xmk, .int x5, .int x6, .int x7, .ref ry]) (st' := [.ref 38, .ref ry]) (by decide +kernel) (fun _ => rfl)).trans ?_
  refine (R_gi (i := 30) (ci := 2) (k := 3) (n := 5) (by decide +kernel) (by decide +kernel) (by decide) rfl).trans ?_
  refine (R_virt (i := 102) (f := 57) (kd := 0) (na := 1) (ml := 2) (ci := 4) (n := 7) (b := ry) (As := [.int (mi 38 3)]) (rest := []) (by decide +kernel) (by decide +kernel) (by decide) (by decide +kernel) rfl (by decide +kernel) hS_ry rfl (by decide +kernel) (Nat.le_of_ble_eq_true rfl)).trans ?_
  rfl
theorem s28_52nv3 {L : Nat} {mi : Nat → Nat → Int32} {ml : Nat → Nat → Int64} {d : Nat} {Q : Option Value → xM → Prop} {x1 x2 x5 x6 x7 : Int32} {x3 : Int64} {r8 : Nat} (hS_r8 : (SH L)[r8]? = some (4, 7)) : X 28 52 [.ref 38, .int x1, .int x2, .long x3, xmk, .int x5, .int x6, .int x7, .ref r8] [.null] (SH L, mi, ml, MR) (d + 1) Q =
    Xm 23 [.ref 38, .int 0, .int 0] (SH L, mi, ml, MR) d (fun v μ' => X 28 129 [.ref 38, .int x1, .int x2, .long x3, xmk, .int x5, .int x6, .int x7, .null] (v.toList ++ []) μ' (d + 1) Q) := by
  refine (R_pure0 (ins := .astore 8) (len := 2) (loc' := [.ref 38, .int x1, .int x2, .long x3, xmk, .int x5, .int x6, .int x7, .null]) (st' := []) (by decide +kernel) (fun _ => rfl)).trans ?_
  refine (R_pure0 (ins := .aload 8) (len := 2) (loc' := [.ref 38, .int x1, .int x2, .long x3, xmk, .int x5, .int x6, .int x7, .null]) (st' := [.null]) (by decide +kernel) (fun _ => rfl)).trans ?_
  refine (R_ifnull_n (off := 34) (t := 90) (by decide +kernel) (by decide +kernel)).trans ?_
  refine (R_pure0 (ins := .aload 8) (len := 2) (loc' := [.ref 38, .int x1, .int x2, .long x3, xmk, .int x5, .int x6, .int x7, .null]) (st' := [.null]) (by decide +kernel) (fun _ => rfl)).trans ?_
  refine (R_ifnull_n (off := 31) (t := 123) (by decide +kernel) (by decide +kernel)).trans ?_
  refine (R_pure0 (ins := .aload_n 0) (len := 1) (loc' := [.ref 38, .int x1, .int x2, .long x3, xmk, .int x5, .int x6, .int x7, .null]) (st' := [.ref 38]) (by decide +kernel) (fun _ => rfl)).trans ?_
  refine (R_iconst (n := 0) (v := 0) (by decide +kernel) (by decide +kernel)).trans ?_
  refine (R_iconst (n := 0) (v := 0) (by decide +kernel) (by decide +kernel)).trans ?_
  refine (R_virt (i := 105) (f := 23) (kd := 0) (na := 2) (ml := 3) (ci := 2) (n := 5) (b := 38) (As := [.int 0, .int 0]) (rest := []) (by decide +kernel) (by decide +kernel) (by decide) (by decide +kernel) rfl (by decide +kernel) rfl rfl (by decide +kernel) (Nat.le_of_ble_eq_true rfl)).trans ?_
  rfl
theorem s29 {L : Nat} {mi : Nat → Nat → Int32} {ml : Nat → Nat → Int64} {d : Nat} {Q : Option Value → xM → Prop} : Xm 29 [.ref 38] (SH L, mi, ml, MR) d Q =
    Q (some (.int ((1 <<< ((mi 38 2) &&& 31)) - 1))) (SH L, mi, ml, MR) := by
  rw [Xm_ent (n := 1) (loc := [.ref 38]) (by decide +kernel) rfl]
  refine (R_iconst (n := 1) (v := 1) (by decide +kernel) (by decide +kernel)).trans ?_
  refine (R_pure0 (ins := .aload_n 0) (len := 1) (loc' := [.ref 38]) (st' := [.ref 38, .int 1]) (by decide +kernel) (fun _ => rfl)).trans ?_
  refine (R_gi (i := 26) (ci := 2) (k := 2) (n := 5) (by decide +kernel) (by decide +kernel) (by decide) rfl).trans ?_
  refine (R_pure0 (ins := .ishl) (len := 1) (loc' := [.ref 38]) (st' := [.int (1 <<< ((mi 38 2) &&& 31))]) (by decide +kernel) (fun _ => rfl)).trans ?_
  refine (R_iconst (n := 1) (v := 1) (by decide +kernel) (by decide +kernel)).trans ?_
  refine (R_pure0 (ins := .isub) (len := 1) (loc' := [.ref 38]) (st' := [.int ((1 <<< ((mi 38 2) &&& 31)) - 1)]) (by decide +kernel) (fun _ => rfl)).trans ?_
  exact R_ireturn (by decide +kernel) (by decide +kernel)
theorem s30 {L : Nat} {mi : Nat → Nat → Int32} {ml : Nat → Nat → Int64} {d : Nat} {Q : Option Value → xM → Prop} : Xm 30 [.ref 38] (SH L, mi, ml, MR) d Q =
    X 30 4 [.ref 38, .int 0, .int 0, xmk] [] (SH L, mi, ml, MR) d Q := by
  rw [Xm_ent (n := 4) (loc := [.ref 38, xmk, xmk, xmk]) (by decide +kernel) rfl]
  refine (R_iconst (n := 0) (v := 0) (by decide +kernel) (by decide +kernel)).trans ?_
  refine (R_pure0 (ins := .istore_n 1) (len := 1) (loc' := [.ref 38, .int 0, xmk, xmk]) (st' := []) (by decide +kernel) (fun _ => rfl)).trans ?_
  refine (R_iconst (n := 0) (v := 0) (by decide +kernel) (by decide +kernel)).trans ?_
  refine (R_pure0 (ins := .istore_n 2) (len := 1) (loc' := [.ref 38, .int 0, .int 0, xmk]) (st' := []) (by decide +kernel) (fun _ => rfl)).trans ?_
  rfl
theorem s30_4 {L : Nat} {mi : Nat → Nat → Int32} {ml : Nat → Nat → Int64} {d : Nat} {Q : Option Value → xM → Prop} {x1 x2 : Int32} : X 30 4 [.ref 38, .int x1, .int x2, xmk] [] (SH L, mi, ml, MR) (d + 1) Q =
    if (x2 < (mi 38 2)) then (Xm 15 [.ref 38, .int x2] (SH L, mi, ml, MR) d (fun v μ' => X 30 17 [.ref 38, .int x1, .int x2, xmk] (v.toList ++ []) μ' (d + 1) Q)) else (Q (some (.int x1)) (SH L, mi, ml, MR)) := by
  refine (R_pure0 (ins := .iload_n 2) (len := 1) (loc' := [.ref 38, .int x1, .int x2, xmk]) (st' := [.int x2]) (by decide +kernel) (fun _ => rfl)).trans ?_
  refine (R_pure0 (ins := .aload_n 0) (len := 1) (loc' := [.ref 38, .int x1, .int x2, xmk]) (st' := [.ref 38, .int x2]) (by decide +kernel) (fun _ => rfl)).trans ?_
  refine (R_gi (i := 26) (ci := 2) (k := 2) (n := 5) (by decide +kernel) (by decide +kernel) (by decide) rfl).trans ?_
  refine (R_icmp_ge (off := 36) (t := 45) (by decide +kernel) (by decide +kernel)).trans (ite_congr rfl (fun c0 => ?_) (fun c0 => ?_))
  · refine (R_pure0 (ins := .aload_n 0) (len := 1) (loc' := [.ref 38, .int x1, .int x2, xmk]) (st' := [.ref 38]) (by decide +kernel) (fun _ => rfl)).trans ?_
    refine (R_pure0 (ins := .iload_n 2) (len := 1) (loc' := [.ref 38, .int x1, .int x2, xmk]) (st' := [.int x2, .ref 38]) (by decide +kernel) (fun _ => rfl)).trans ?_
    refine (R_virt (i := 46) (f := 15) (kd := 0) (na := 1) (ml := 2) (ci := 2) (n := 5) (b := 38) (As := [.int x2]) (rest := []) (by decide +kernel) (by decide +kernel) (by decide) (by decide +kernel) rfl (by decide +kernel) rfl rfl (by decide +kernel) (Nat.le_of_ble_eq_true rfl)).trans ?_
    rfl
  · refine (R_pure0 (ins := .iload_n 1) (len := 1) (loc' := [.ref 38, .int x1, .int x2, xmk]) (st' := [.int x1]) (by decide +kernel) (fun _ => rfl)).trans ?_
    exact R_ireturn (by decide +kernel) (by decide +kernel)
theorem s30_17 {L : Nat} {mi : Nat → Nat → Int32} {ml : Nat → Nat → Int64} {d : Nat} {Q : Option Value → xM → Prop} {x1 x2 : Int32} {ry : Nat} (hS_ry : (SH L)[ry]? = some (4, 7)) : X 30 17 [.ref 38, .int x1, .int x2, xmk] [.ref ry] (SH L, mi, ml, MR) d Q =
    if ((mi ry 6) = 0) then (X 30 4 [.ref 38, .int (x1 ||| (1 <<< (x2 &&& 31))), .int (x2 + 1), .ref ry] [] (SH L, mi, ml, MR) d Q) else (X 30 4 [.ref 38, .int (x1 ||| 0), .int (x2 + 1), .ref ry] [] (SH L, mi, ml, MR) d Q) := by
  refine (R_pure0 (ins := .astore_n 3) (len := 1) (loc' := [.ref 38, .int x1, .int x2, .ref ry]) (st' := []) (by decide +kernel) (fun _ => rfl)).trans ?_
  refine (R_pure0 (ins := .iload_n 1) (len := 1) (loc' := [.ref 38, .int x1, .int x2, .ref ry]) (st' := [.int x1]) (by decide +kernel) (fun _ => rfl)).trans ?_
  refine (R_pure0 (ins := .aload_n 3) (len := 1) (loc' := [.ref 38, .int x1, .int x2, .ref ry]) (st' := [.ref ry, .int x1]) (by decide +kernel) (fun _ => rfl)).trans ?_
  refine (R_ifnull_r (off := 16) (by decide +kernel)).trans ?_
  refine (R_pure0 (ins := .aload_n 3) (len := 1) (loc' := [.ref 38, .int x1, .int x2, .ref ry]) (st' := [.ref ry, .int x1]) (by decide +kernel) (fun _ => rfl)).trans ?_
  refine (R_gi (i := 76) (ci := 4) (k := 6) (n := 7) (by decide +kernel) (by decide +kernel) (by decide) hS_ry).trans ?_
  refine (R_if_ne (off := 9) (t := 36) (by decide +kernel) (by decide +kernel)).trans (ite_congr rfl (fun c0 => ?_) (fun c0 => ?_))
  · refine (R_iconst (n := 1) (v := 1) (by decide +kernel) (by decide +kernel)).trans ?_
    refine (R_pure0 (ins := .iload_n 2) (len := 1) (loc' := [.ref 38, .int x1, .int x2, .ref ry]) (st' := [.int x2, .int 1, .int x1]) (by decide +kernel) (fun _ => rfl)).trans ?_
    refine (R_pure0 (ins := .ishl) (len := 1) (loc' := [.ref 38, .int x1, .int x2, .ref ry]) (st' := [.int (1 <<< (x2 &&& 31)), .int x1]) (by decide +kernel) (fun _ => rfl)).trans ?_
    refine (R_goto (off := 4) (t := 37) (by decide +kernel) (by decide +kernel)).trans ?_
    refine (R_pure0 (ins := .ior) (len := 1) (loc' := [.ref 38, .int x1, .int x2, .ref ry]) (st' := [.int (x1 ||| (1 <<< (x2 &&& 31)))]) (by decide +kernel) (fun _ => rfl)).trans ?_
    refine (R_pure0 (ins := .istore_n 1) (len := 1) (loc' := [.ref 38, .int (x1 ||| (1 <<< (x2 &&& 31))), .int x2, .ref ry]) (st' := []) (by decide +kernel) (fun _ => rfl)).trans ?_
    refine (R_iinc (k := 2) (n := 1) (x := x2) (v := (x2 + 1)) (loc' := [.ref 38, .int (x1 ||| (1 <<< (x2 &&& 31))), .int (x2 + 1), .ref ry]) (by decide +kernel) rfl rfl rfl).trans ?_
    refine (R_goto (off := (-38)) (t := 4) (by decide +kernel) (by decide +kernel)).trans ?_
    rfl
  · refine (R_iconst (n := 0) (v := 0) (by decide +kernel) (by decide +kernel)).trans ?_
    refine (R_pure0 (ins := .ior) (len := 1) (loc' := [.ref 38, .int x1, .int x2, .ref ry]) (st' := [.int (x1 ||| 0)]) (by decide +kernel) (fun _ => rfl)).trans ?_
    refine (R_pure0 (ins := .istore_n 1) (len := 1) (loc' := [.ref 38, .int (x1 ||| 0), .int x2, .ref ry]) (st' := []) (by decide +kernel) (fun _ => rfl)).trans ?_
    refine (R_iinc (k := 2) (n := 1) (x := x2) (v := (x2 + 1)) (loc' := [.ref 38, .int (x1 ||| 0), .int (x2 + 1), .ref ry]) (by decide +kernel) rfl rfl rfl).trans ?_
    refine (R_goto (off := (-38)) (t := 4) (by decide +kernel) (by decide +kernel)).trans ?_
    rfl
theorem s30_17n {L : Nat} {mi : Nat → Nat → Int32} {ml : Nat → Nat → Int64} {d : Nat} {Q : Option Value → xM → Prop} {x1 x2 : Int32} : X 30 17 [.ref 38, .int x1, .int x2, xmk] [.null] (SH L, mi, ml, MR) d Q =
    X 30 4 [.ref 38, .int (x1 ||| 0), .int (x2 + 1), .null] [] (SH L, mi, ml, MR) d Q := by
  refine (R_pure0 (ins := .astore_n 3) (len := 1) (loc' := [.ref 38, .int x1, .int x2, .null]) (st' := []) (by decide +kernel) (fun _ => rfl)).trans ?_
  refine (R_pure0 (ins := .iload_n 1) (len := 1) (loc' := [.ref 38, .int x1, .int x2, .null]) (st' := [.int x1]) (by decide +kernel) (fun _ => rfl)).trans ?_
  refine (R_pure0 (ins := .aload_n 3) (len := 1) (loc' := [.ref 38, .int x1, .int x2, .null]) (st' := [.null, .int x1]) (by decide +kernel) (fun _ => rfl)).trans ?_
  refine (R_ifnull_n (off := 16) (t := 36) (by decide +kernel) (by decide +kernel)).trans ?_
  refine (R_iconst (n := 0) (v := 0) (by decide +kernel) (by decide +kernel)).trans ?_
  refine (R_pure0 (ins := .ior) (len := 1) (loc' := [.ref 38, .int x1, .int x2, .null]) (st' := [.int (x1 ||| 0)]) (by decide +kernel) (fun _ => rfl)).trans ?_
  refine (R_pure0 (ins := .istore_n 1) (len := 1) (loc' := [.ref 38, .int (x1 ||| 0), .int x2, .null]) (st' := []) (by decide +kernel) (fun _ => rfl)).trans ?_
  refine (R_iinc (k := 2) (n := 1) (x := x2) (v := (x2 + 1)) (loc' := [.ref 38, .int (x1 ||| 0), .int (x2 + 1), .null]) (by decide +kernel) rfl rfl rfl).trans ?_
  refine (R_goto (off := (-38)) (t := 4) (by decide +kernel) (by decide +kernel)).trans ?_
  rfl
theorem s30_4v2 {L : Nat} {mi : Nat → Nat → Int32} {ml : Nat → Nat → Int64} {d : Nat} {Q : Option Value → xM → Prop} {x1 x2 : Int32} {r3 : Nat} (hS_r3 : (SH L)[r3]? = some (4, 7)) : X 30 4 [.ref 38, .int x1, .int x2, .ref r3] [] (SH L, mi, ml, MR) (d + 1) Q =
    if (x2 < (mi 38 2)) then (Xm 15 [.ref 38, .int x2] (SH L, mi, ml, MR) d (fun v μ' => X 30 17 [.ref 38, .int x1, .int x2, .ref r3] (v.toList ++ []) μ' (d + 1) Q)) else (Q (some (.int x1)) (SH L, mi, ml, MR)) := by
  refine (R_pure0 (ins := .iload_n 2) (len := 1) (loc' := [.ref 38, .int x1, .int x2, .ref r3]) (st' := [.int x2]) (by decide +kernel) (fun _ => rfl)).trans ?_
  refine (R_pure0 (ins := .aload_n 0) (len := 1) (loc' := [.ref 38, .int x1, .int x2, .ref r3]) (st' := [.ref 38, .int x2]) (by decide +kernel) (fun _ => rfl)).trans ?_
  refine (R_gi (i := 26) (ci := 2) (k := 2) (n := 5) (by decide +kernel) (by decide +kernel) (by decide) rfl).trans ?_
  refine (R_icmp_ge (off := 36) (t := 45) (by decide +kernel) (by decide +kernel)).trans (ite_congr rfl (fun c0 => ?_) (fun c0 => ?_))
  · refine (R_pure0 (ins := .aload_n 0) (len := 1) (loc' := [.ref 38, .int x1, .int x2, .ref r3]) (st' := [.ref 38]) (by decide +kernel) (fun _ => rfl)).trans ?_
    refine (R_pure0 (ins := .iload_n 2) (len := 1) (loc' := [.ref 38, .int x1, .int x2, .ref r3]) (st' := [.int x2, .ref 38]) (by decide +kernel) (fun _ => rfl)).trans ?_
    refine (R_virt (i := 46) (f := 15) (kd := 0) (na := 1) (ml := 2) (ci := 2) (n := 5) (b := 38) (As := [.int x2]) (rest := []) (by decide +kernel) (by decide +kernel) (by decide) (by decide +kernel) rfl (by decide +kernel) rfl rfl (by decide +kernel) (Nat.le_of_ble_eq_true rfl)).trans ?_
    rfl
  · refine (R_pure0 (ins := .iload_n 1) (len := 1) (loc' := [.ref 38, .int x1, .int x2, .ref r3]) (st' := [.int x1]) (by decide +kernel) (fun _ => rfl)).trans ?_
    exact R_ireturn (by decide +kernel) (by decide +kernel)
theorem s30_4v3 {L : Nat} {mi : Nat → Nat → Int32} {ml : Nat → Nat → Int64} {d : Nat} {Q : Option Value → xM → Prop} {x1 x2 : Int32} : X 30 4 [.ref 38, .int x1, .int x2, .null] [] (SH L, mi, ml, MR) (d + 1) Q =
    if (x2 < (mi 38 2)) then (Xm 15 [.ref 38, .int x2] (SH L, mi, ml, MR) d (fun v μ' => X 30 17 [.ref 38, .int x1, .int x2, .null] (v.toList ++ []) μ' (d + 1) Q)) else (Q (some (.int x1)) (SH L, mi, ml, MR)) := by
  refine (R_pure0 (ins := .iload_n 2) (len := 1) (loc' := [.ref 38, .int x1, .int x2, .null]) (st' := [.int x2]) (by decide +kernel) (fun _ => rfl)).trans ?_
  refine (R_pure0 (ins := .aload_n 0) (len := 1) (loc' := [.ref 38, .int x1, .int x2, .null]) (st' := [.ref 38, .int x2]) (by decide +kernel) (fun _ => rfl)).trans ?_
  refine (R_gi (i := 26) (ci := 2) (k := 2) (n := 5) (by decide +kernel) (by decide +kernel) (by decide) rfl).trans ?_
  refine (R_icmp_ge (off := 36) (t := 45) (by decide +kernel) (by decide +kernel)).trans (ite_congr rfl (fun c0 => ?_) (fun c0 => ?_))
  · refine (R_pure0 (ins := .aload_n 0) (len := 1) (loc' := [.ref 38, .int x1, .int x2, .null]) (st' := [.ref 38]) (by decide +kernel) (fun _ => rfl)).trans ?_
    refine (R_pure0 (ins := .iload_n 2) (len := 1) (loc' := [.ref 38, .int x1, .int x2, .null]) (st' := [.int x2, .ref 38]) (by decide +kernel) (fun _ => rfl)).trans ?_
    refine (R_virt (i := 46) (f := 15) (kd := 0) (na := 1) (ml := 2) (ci := 2) (n := 5) (b := 38) (As := [.int x2]) (rest := []) (by decide +kernel) (by decide +kernel) (by decide) (by decide +kernel) rfl (by decide +kernel) rfl rfl (by decide +kernel) (Nat.le_of_ble_eq_true rfl)).trans ?_
    rfl
  · refine (R_pure0 (ins := .iload_n 1) (len := 1) (loc' := [.ref 38, .int x1, .int x2, .null]) (st' := [.int x1]) (by decide +kernel) (fun _ => rfl)).trans ?_
    exact R_ireturn (by decide +kernel) (by decide +kernel)
theorem s30_17v2 {L : Nat} {mi : Nat → Nat → Int32} {ml : Nat → Nat → Int64} {d : Nat} {Q : Option Value → xM → Prop} {x1 x2 : Int32} {r3 ry : Nat} (hS_r3 : (SH L)[r3]? = some (4, 7)) (hS_ry : (SH L)[ry]? = some (4, 7)) : X 30 17 [.ref 38, .int x1, .int x2, .ref r3] [.ref ry] (SH L, mi, ml, MR) d Q =
    if ((mi ry 6) = 0) then (X 30 4 [.ref 38, .int (x1 ||| (1 <<< (x2 &&& 31))), .int (x2 + 1), .ref ry] [] (SH L, mi, ml, MR) d Q) else (X 30 4 [.ref 38, .int (x1 ||| 0), .int (x2 + 1), .ref ry] [] (SH L, mi, ml, MR) d Q) := by
  refine (R_pure0 (ins := .astore_n 3) (len := 1) (loc' := [.ref 38, .int x1, .int x2, .ref ry]) (st' := []) (by decide +kernel) (fun _ => rfl)).trans ?_
  refine (R_pure0 (ins := .iload_n 1) (len := 1) (loc' := [.ref 38, .int x1, .int x2, .ref ry]) (st' := [.int x1]) (by decide +kernel) (fun _ => rfl)).trans ?_
  refine (R_pure0 (ins := .aload_n 3) (len := 1) (loc' := [.ref 38, .int x1, .int x2, .ref ry]) (st' := [.ref ry, .int x1]) (by decide +kernel) (fun _ => rfl)).trans ?_
  refine (R_ifnull_r (off := 16) (by decide +kernel)).trans ?_
  refine (R_pure0 (ins := .aload_n 3) (len := 1) (loc' := [.ref 38, .int x1, .int x2, .ref ry]) (st' := [.ref ry, .int x1]) (by decide +kernel) (fun _ => rfl)).trans ?_
  refine (R_gi (i := 76) (ci := 4) (k := 6) (n := 7) (by decide +kernel) (by decide +kernel) (by decide) hS_ry).trans ?_
  refine (R_if_ne (off := 9) (t := 36) (by decide +kernel) (by decide +kernel)).trans (ite_congr rfl (fun c0 => ?_) (fun c0 => ?_))
  · refine (R_iconst (n := 1) (v := 1) (by decide +kernel) (by decide +kernel)).trans ?_
    refine (R_pure0 (ins := .iload_n 2) (len := 1) (loc' := [.ref 38, .int x1, .int x2, .ref ry]) (st' := [.int x2, .int 1, .int x1]) (by decide +kernel) (fun _ => rfl)).trans ?_
    refine (R_pure0 (ins := .ishl) (len := 1) (loc' := [.ref 38, .int x1, .int x2, .ref ry]) (st' := [.int (1 <<< (x2 &&& 31)), .int x1]) (by decide +kernel) (fun _ => rfl)).trans ?_
    refine (R_goto (off := 4) (t := 37) (by decide +kernel) (by decide +kernel)).trans ?_
    refine (R_pure0 (ins := .ior) (len := 1) (loc' := [.ref 38, .int x1, .int x2, .ref ry]) (st' := [.int (x1 ||| (1 <<< (x2 &&& 31)))]) (by decide +kernel) (fun _ => rfl)).trans ?_
    refine (R_pure0 (ins := .istore_n 1) (len := 1) (loc' := [.ref 38, .int (x1 ||| (1 <<< (x2 &&& 31))), .int x2, .ref ry]) (st' := []) (by decide +kernel) (fun _ => rfl)).trans ?_
    refine (R_iinc (k := 2) (n := 1) (x := x2) (v := (x2 + 1)) (loc' := [.ref 38, .int (x1 ||| (1 <<< (x2 &&& 31))), .int (x2 + 1), .ref ry]) (by decide +kernel) rfl rfl rfl).trans ?_
    refine (R_goto (off := (-38)) (t := 4) (by decide +kernel) (by decide +kernel)).trans ?_
    rfl
  · refine (R_iconst (n := 0) (v := 0) (by decide +kernel) (by decide +kernel)).trans ?_
    refine (R_pure0 (ins := .ior) (len := 1) (loc' := [.ref 38, .int x1, .int x2, .ref ry]) (st' := [.int (x1 ||| 0)]) (by decide +kernel) (fun _ => rfl)).trans ?_
    refine (R_pure0 (ins := .istore_n 1) (len := 1) (loc' := [.ref 38, .int (x1 ||| 0), .int x2, .ref ry]) (st' := []) (by decide +kernel) (fun _ => rfl)).trans ?_
    refine (R_iinc (k := 2) (n := 1) (x := x2) (v := (x2 + 1)) (loc' := [.ref 38, .int (x1 ||| 0), .int (x2 + 1), .ref ry]) (by decide +kernel) rfl rfl rfl).trans ?_
    refine (R_goto (off := (-38)) (t := 4) (by decide +kernel) (by decide +kernel)).trans ?_
    rfl
theorem s30_17nv2 {L : Nat} {mi : Nat → Nat → Int32} {ml : Nat → Nat → Int64} {d : Nat} {Q : Option Value → xM → Prop} {x1 x2 : Int32} {r3 : Nat} (hS_r3 : (SH L)[r3]? = some (4, 7)) : X 30 17 [.ref 38, .int x1, .int x2, .ref r3] [.null] (SH L, mi, ml, MR) d Q =
    X 30 4 [.ref 38, .int (x1 ||| 0), .int (x2 + 1), .null] [] (SH L, mi, ml, MR) d Q := by
  refine (R_pure0 (ins := .astore_n 3) (len := 1) (loc' := [.ref 38, .int x1, .int x2, .null]) (st' := []) (by decide +kernel) (fun _ => rfl)).trans ?_
  refine (R_pure0 (ins := .iload_n 1) (len := 1) (loc' := [.ref 38, .int x1, .int x2, .null]) (st' := [.int x1]) (by decide +kernel) (fun _ => rfl)).trans ?_
  refine (R_pure0 (ins := .aload_n 3) (len := 1) (loc' := [.ref 38, .int x1, .int x2, .null]) (st' := [.null, .int x1]) (by decide +kernel) (fun _ => rfl)).trans ?_
  refine (R_ifnull_n (off := 16) (t := 36) (by decide +kernel) (by decide +kernel)).trans ?_
  refine (R_iconst (n := 0) (v := 0) (by decide +kernel) (by decide +kernel)).trans ?_
  refine (R_pure0 (ins := .ior) (len := 1) (loc' := [.ref 38, .int x1, .int x2, .null]) (st' := [.int (x1 ||| 0)]) (by decide +kernel) (fun _ => rfl)).trans ?_
  refine (R_pure0 (ins := .istore_n 1) (len := 1) (loc' := [.ref 38, .int (x1 ||| 0), .int x2, .null]) (st' := []) (by decide +kernel) (fun _ => rfl)).trans ?_
  refine (R_iinc (k := 2) (n := 1) (x := x2) (v := (x2 + 1)) (loc' := [.ref 38, .int (x1 ||| 0), .int (x2 + 1), .null]) (by decide +kernel) rfl rfl rfl).trans ?_
  refine (R_goto (off := (-38)) (t := 4) (by decide +kernel) (by decide +kernel)).trans ?_
  rfl
theorem s30_17v3 {L : Nat} {mi : Nat → Nat → Int32} {ml : Nat → Nat → Int64} {d : Nat} {Q : Option Value → xM → Prop} {x1 x2 : Int32} {ry : Nat} (hS_ry : (SH L)[ry]? = some (4, 7)) : X 30 17 [.ref 38, .int x1, .int x2, .null] [.ref ry] (SH L, mi, ml, MR) d Q =
    if ((mi ry 6) = 0) then (X 30 4 [.ref 38, .int (x1 ||| (1 <<< (x2 &&& 31))), .int (x2 + 1), .ref ry] [] (SH L, mi, ml, MR) d Q) else (X 30 4 [.ref 38, .int (x1 ||| 0), .int (x2 + 1), .ref ry] [] (SH L, mi, ml, MR) d Q) := by
  refine (R_pure0 (ins := .astore_n 3) (len := 1) (loc' := [.ref 38, .int x1, .int x2, .ref ry]) (st' := []) (by decide +kernel) (fun _ => rfl)).trans ?_
  refine (R_pure0 (ins := .iload_n 1) (len := 1) (loc' := [.ref 38, .int x1, .int x2, .ref ry]) (st' := [.int x1]) (by decide +kernel) (fun _ => rfl)).trans ?_
  refine (R_pure0 (ins := .aload_n 3) (len := 1) (loc' := [.ref 38, .int x1, .int x2, .ref ry]) (st' := [.ref ry, .int x1]) (by decide +kernel) (fun _ => rfl)).trans ?_
  refine (R_ifnull_r (off := 16) (by decide +kernel)).trans ?_
  refine (R_pure0 (ins := .aload_n 3) (len := 1) (loc' := [.ref 38, .int x1, .int x2, .ref ry]) (st' := [.ref ry, .int x1]) (by decide +kernel) (fun _ => rfl)).trans ?_
  refine (R_gi (i := 76) (ci := 4) (k := 6) (n := 7) (by decide +kernel) (by decide +kernel) (by decide) hS_ry).trans ?_
  refine (R_if_ne (off := 9) (t := 36) (by decide +kernel) (by decide +kernel)).trans (ite_congr rfl (fun c0 => ?_) (fun c0 => ?_))
  · refine (R_iconst (n := 1) (v := 1) (by decide +kernel) (by decide +kernel)).trans ?_
    refine (R_pure0 (ins := .iload_n 2) (len := 1) (loc' := [.ref 38, .int x1, .int x2, .ref ry]) (st' := [.int x2, .int 1, .int x1]) (by decide +kernel) (fun _ => rfl)).trans ?_
    refine (R_pure0 (ins := .ishl) (len := 1) (loc' := [.ref 38, .int x1, .int x2, .ref ry]) (st' := [.int (1 <<< (x2 &&& 31)), .int x1]) (by decide +kernel) (fun _ => rfl)).trans ?_
    refine (R_goto (off := 4) (t := 37) (by decide +kernel) (by decide +kernel)).trans ?_
    refine (R_pure0 (ins := .ior) (len := 1) (loc' := [.ref 38, .int x1, .int x2, .ref ry]) (st' := [.int (x1 ||| (1 <<< (x2 &&& 31)))]) (by decide +kernel) (fun _ => rfl)).trans ?_
    refine (R_pure0 (ins := .istore_n 1) (len := 1) (loc' := [.ref 38, .int (x1 ||| (1 <<< (x2 &&& 31))), .int x2, .ref ry]) (st' := []) (by decide +kernel) (fun _ => rfl)).trans ?_
    refine (R_iinc (k := 2) (n := 1) (x := x2) (v := (x2 + 1)) (loc' := [.ref 38, .int (x1 ||| (1 <<< (x2 &&& 31))), .int (x2 + 1), .ref ry]) (by decide +kernel) rfl rfl rfl).trans ?_
    refine (R_goto (off := (-38)) (t := 4) (by decide +kernel) (by decide +kernel)).trans ?_
    rfl
  · refine (R_iconst (n := 0) (v := 0) (by decide +kernel) (by decide +kernel)).trans ?_
    refine (R_pure0 (ins := .ior) (len := 1) (loc' := [.ref 38, .int x1, .int x2, .ref ry]) (st' := [.int (x1 ||| 0)]) (by decide +kernel) (fun _ => rfl)).trans ?_
    refine (R_pure0 (ins := .istore_n 1) (len := 1) (loc' := [.ref 38, .int (x1 ||| 0), .int x2, .ref ry]) (st' := []) (by decide +kernel) (fun _ => rfl)).trans ?_
    refine (R_iinc (k := 2) (n := 1) (x := x2) (v := (x2 + 1)) (loc' := [.ref 38, .int (x1 ||| 0), .int (x2 + 1), .ref ry]) (by decide +kernel) rfl rfl rfl).trans ?_
    refine (R_goto (off := (-38)) (t := 4) (by decide +kernel) (by decide +kernel)).trans ?_
    rfl
theorem s30_17nv3 {L : Nat} {mi : Nat → Nat → Int32} {ml : Nat → Nat → Int64} {d : Nat} {Q : Option Value → xM → Prop} {x1 x2 : Int32} : X 30 17 [.ref 38, .int x1, .int x2, .null] [.null] (SH L, mi, ml, MR) d Q =
    X 30 4 [.ref 38, .int (x1 ||| 0), .int (x2 + 1), .null] [] (SH L, mi, ml, MR) d Q := by
  refine (R_pure0 (ins := .astore_n 3) (len := 1) (loc' := [.ref 38, .int x1, .int x2, .null]) (st' := []) (by decide +kernel) (fun _ => rfl)).trans ?_
  refine (R_pure0 (ins := .iload_n 1) (len := 1) (loc' := [.ref 38, .int x1, .int x2, .null]) (st' := [.int x1]) (by decide +kernel) (fun _ => rfl)).trans ?_
  refine (R_pure0 (ins := .aload_n 3) (len := 1) (loc' := [.ref 38, .int x1, .int x2, .null]) (st' := [.null, .int x1]) (by decide +kernel) (fun _ => rfl)).trans ?_
  refine (R_ifnull_n (off := 16) (t := 36) (by decide +kernel) (by decide +kernel)).trans ?_
  refine (R_iconst (n := 0) (v := 0) (by decide +kernel) (by decide +kernel)).trans ?_
  refine (R_pure0 (ins := .ior) (len := 1) (loc' := [.ref 38, .int x1, .int x2, .null]) (st' := [.int (x1 ||| 0)]) (by decide +kernel) (fun _ => rfl)).trans ?_
  refine (R_pure0 (ins := .istore_n 1) (len := 1) (loc' := [.ref 38, .int (x1 ||| 0), .int x2, .null]) (st' := []) (by decide +kernel) (fun _ => rfl)).trans ?_
  refine (R_iinc (k := 2) (n := 1) (x := x2) (v := (x2 + 1)) (loc' := [.ref 38, .int (x1 ||| 0), .int (x2 + 1), .null]) (by decide +kernel) rfl rfl rfl).trans ?_
  refine (R_goto (off := (-38)) (t := 4) (by decide +kernel) (by decide +kernel)).trans ?_
  rfl
theorem s31 {L : Nat} {mi : Nat → Nat → Int32} {ml : Nat → Nat → Int64} {d : Nat} {Q : Option Value → xM → Prop} {x1 : Int32} : Xm 31 [.ref 38, .int x1] (SH L, mi, ml, MR) d Q =
    X 31 4 [.ref 38, .int x1, .int 0, .int 0, xmk] [] (SH L, mi, ml, MR) d Q := by
  rw [Xm_ent (n := 5) (loc := [.ref 38, .int x1, xmk, xmk, xmk]) (by decide +kernel) rfl]
  refine (R_iconst (n := 0) (v := 0) (by decide +kernel) (by decide +kernel)).trans ?_
  refine (R_pure0 (ins := .istore_n 2) (len := 1) (loc' := [.ref 38, .int x1, .int 0, xmk, xmk]) (st' := []) (by decide +kernel) (fun _ => rfl)).trans ?_
  refine (R_iconst (n := 0) (v := 0) (by decide +kernel) (by decide +kernel)).trans ?_
  refine (R_pure0 (ins := .istore_n 3) (len := 1) (loc' := [.ref 38, .int x1, .int 0, .int 0, xmk]) (st' := []) (by decide +kernel) (fun _ => rfl)).trans ?_
  rfl
theorem s31_4 {L : Nat} {mi : Nat → Nat → Int32} {ml : Nat → Nat → Int64} {d : Nat} {Q : Option Value → xM → Prop} {x1 x2 x3 : Int32} : X 31 4 [.ref 38, .int x1, .int x2, .int x3, xmk] [] (SH L, mi, ml, MR) (d + 1) Q =
    if (x3 < (mi 38 2)) then (Xm 15 [.ref 38, .int x3] (SH L, mi, ml, MR) d (fun v μ' => X 31 17 [.ref 38, .int x1, .int x2, .int x3, xmk] (v.toList ++ []) μ' (d + 1) Q)) else (Q (some (.int x2)) (SH L, mi, ml, MR)) := by
  refine (R_pure0 (ins := .iload_n 3) (len := 1) (loc' := [.ref 38, .int x1, .int x2, .int x3, xmk]) (st' := [.int x3]) (by decide +kernel) (fun _ => rfl)).trans ?_
  refine (R_pure0 (ins := .aload_n 0) (len := 1) (loc' := [.ref 38, .int x1, .int x2, .int x3, xmk]) (st' := [.ref 38, .int x3]) (by decide +kernel) (fun _ => rfl)).trans ?_
  refine (R_gi (i := 26) (ci := 2) (k := 2) (n := 5) (by decide +kernel) (by decide +kernel) (by decide) rfl).trans ?_
  refine (R_icmp_ge (off := 38) (t := 47) (by decide +kernel) (by decide +kernel)).trans (ite_congr rfl (fun c0 => ?_) (fun c0 => ?_))
  · refine (R_pure0 (ins := .aload_n 0) (len := 1) (loc' := [.ref 38, .int x1, .int x2, .int x3, xmk]) (st' := [.ref 38]) (by decide +kernel) (fun _ => rfl)).trans ?_
    refine (R_pure0 (ins := .iload_n 3) (len := 1) (loc' := [.ref 38, .int x1, .int x2, .int x3, xmk]) (st' := [.int x3, .ref 38]) (by decide +kernel) (fun _ => rfl)).trans ?_
    refine (R_virt (i := 46) (f := 15) (kd := 0) (na := 1) (ml := 2) (ci := 2) (n := 5) (b := 38) (As := [.int x3]) (rest := []) (by decide +kernel) (by decide +kernel) (by decide) (by decide +kernel) rfl (by decide +kernel) rfl rfl (by decide +kernel) (Nat.le_of_ble_eq_true rfl)).trans ?_
    rfl
  · refine (R_pure0 (ins := .iload_n 2) (len := 1) (loc' := [.ref 38, .int x1, .int x2, .int x3, xmk]) (st' := [.int x2]) (by decide +kernel) (fun _ => rfl)).trans ?_
    exact R_ireturn (by decide +kernel) (by decide +kernel)
theorem s31_17 {L : Nat} {mi : Nat → Nat → Int32} {ml : Nat → Nat → Int64} {d : Nat} {Q : Option Value → xM → Prop} {x1 x2 x3 : Int32} {ry : Nat} (hS_ry : (SH L)[ry]? = some (4, 7)) : X 31 17 [.ref 38, .int x1, .int x2, .int x3, xmk] [.ref ry] (SH L, mi, ml, MR) (d + 1) Q =
    Xm 60 [.ref ry, .int x1, .int (mi 38 3)] (SH L, mi, ml, MR) d (fun v μ' => X 31 39 [.ref 38, .int x1, .int x2, .int x3, .ref ry] (v.toList ++ [.int x2]) μ' (d + 1) Q) := by
  refine (R_pure0 (ins := .astore 4) (len := 2) (loc' := [.ref 38, .int x1, .int x2, .int x3, .ref ry]) (st' := []) (by decide +kernel) (fun _ => rfl)).trans ?_
  refine (R_pure0 (ins := .iload_n 2) (len := 1) (loc' := [.ref 38, .int x1, .int x2, .int x3, .ref ry]) (st' := [.int x2]) (by decide +kernel) (fun _ => rfl)).trans ?_
  refine (R_pure0 (ins := .aload 4) (len := 2) (loc' := [.ref 38, .int x1, .int x2, .int x3, .ref ry]) (st' := [.ref ry, .int x2]) (by decide +kernel) (fun _ => rfl)).trans ?_
  refine (R_ifnonnull_r (off := 7) (t := 29) (by decide +kernel) (by decide +kernel)).trans ?_
  refine (R_pure0 (ins := .aload 4) (len := 2) (loc' := [.ref 38, .int x1, .int x2, .int x3, .ref ry]) (st' := [.ref ry, .int x2]) (by decide +kernel) (fun _ => rfl)).trans ?_
  refine (R_pure0 (ins := .iload_n 1) (len := 1) (loc' := [.ref 38, .int x1, .int x2, .int x3, .ref ry]) (st' := [.int x1, .ref ry, .int x2]) (by decide +kernel) (fun _ => rfl)).trans ?_
  refine (R_pure0 (ins := .aload_n 0) (len := 1) (loc' := [.ref 38, .int x1, .int x2, .int x3, .ref ry]) (st' := [.ref 38, .int x1, .ref ry, .int x2]) (by decide +kernel) (fun _ => rfl)).trans ?_
  refine (R_gi (i := 30) (ci := 2) (k := 3) (n := 5) (by decide +kernel) (by decide +kernel) (by decide) rfl).trans ?_
  refine (R_virt (i := 114) (f := 60) (kd := 0) (na := 2) (ml := 3) (ci := 4) (n := 7) (b := ry) (As := [.int x1, .int (mi 38 3)]) (rest := [.int x2]) (by decide +kernel) (by decide +kernel) (by decide) (by decide +kernel) rfl (by decide +kernel) hS_ry rfl (by decide +kernel) (Nat.le_of_ble_eq_true rfl)).trans ?_
  rfl
theorem s31_17n {L : Nat} {mi : Nat → Nat → Int32} {ml : Nat → Nat → Int64} {d : Nat} {Q : Option Value → xM → Prop} {x1 x2 x3 : Int32} : X 31 17 [.ref 38, .int x1, .int x2, .int x3, xmk] [.null] (SH L, mi, ml, MR) d Q =
    X 31 4 [.ref 38, .int x1, .int (x2 + 0), .int (x3 + 1), .null] [] (SH L, mi, ml, MR) d Q := by
  refine (R_pure0 (ins := .astore 4) (len := 2) (loc' := [.ref 38, .int x1, .int x2, .int x3, .null]) (st' := []) (by decide +kernel) (fun _ => rfl)).trans ?_
  refine (R_pure0 (ins := .iload_n 2) (len := 1) (loc' := [.ref 38, .int x1, .int x2, .int x3, .null]) (st' := [.int x2]) (by decide +kernel) (fun _ => rfl)).trans ?_
  refine (R_pure0 (ins := .aload 4) (len := 2) (loc' := [.ref 38, .int x1, .int x2, .int x3, .null]) (st' := [.null, .int x2]) (by decide +kernel) (fun _ => rfl)).trans ?_
  refine (R_ifnonnull_n (off := 7) (by decide +kernel)).trans ?_
  refine (R_iconst (n := 0) (v := 0) (by decide +kernel) (by decide +kernel)).trans ?_
  refine (R_goto (off := 13) (t := 39) (by decide +kernel) (by decide +kernel)).trans ?_
  refine (R_pure0 (ins := .iadd) (len := 1) (loc' := [.ref 38, .int x1, .int x2, .int x3, .null]) (st' := [.int (x2 + 0)]) (by decide +kernel) (fun _ => rfl)).trans ?_
  refine (R_pure0 (ins := .istore_n 2) (len := 1) (loc' := [.ref 38, .int x1, .int (x2 + 0), .int x3, .null]) (st' := []) (by decide +kernel) (fun _ => rfl)).trans ?_
  refine (R_iinc (k := 3) (n := 1) (x := x3) (v := (x3 + 1)) (loc' := [.ref 38, .int x1, .int (x2 + 0), .int (x3 + 1), .null]) (by decide +kernel) rfl rfl rfl).trans ?_
  refine (R_goto (off := (-40)) (t := 4) (by decide +kernel) (by decide +kernel)).trans ?_
  rfl
theorem s31_39 {L : Nat} {mi : Nat → Nat → Int32} {ml : Nat → Nat → Int64} {d : Nat} {Q : Option Value → xM → Prop} {x1 x2 x3 y z0 : Int32} {r4 : Nat} (hS_r4 : (SH L)[r4]? = some (4, 7)) : X 31 39 [.ref 38, .int x1, .int x2, .int x3, .ref r4] [.int y, .int z0] (SH L, mi, ml, MR) d Q =
    X 31 4 [.ref 38, .int x1, .int (z0 + y), .int (x3 + 1), .ref r4] [] (SH L, mi, ml, MR) d Q := by
  refine (R_pure0 (ins := .iadd) (len := 1) (loc' := [.ref 38, .int x1, .int x2, .int x3, .ref r4]) (st' := [.int (z0 + y)]) (by decide +kernel) (fun _ => rfl)).trans ?_
  refine (R_pure0 (ins := .istore_n 2) (len := 1) (loc' := [.ref 38, .int x1, .int (z0 + y), .int x3, .ref r4]) (st' := []) (by decide +kernel) (fun _ => rfl)).trans ?_
  refine (R_iinc (k := 3) (n := 1) (x := x3) (v := (x3 + 1)) (loc' := [.ref 38, .int x1, .int (z0 + y), .int (x3 + 1), .ref r4]) (by decide +kernel) rfl rfl rfl).trans ?_
  refine (R_goto (off := (-40)) (t := 4) (by decide +kernel) (by decide +kernel)).trans ?_
  rfl
theorem s31_4v2 {L : Nat} {mi : Nat → Nat → Int32} {ml : Nat → Nat → Int64} {d : Nat} {Q : Option Value → xM → Prop} {x1 x2 x3 : Int32} : X 31 4 [.ref 38, .int x1, .int x2, .int x3, .null] [] (SH L, mi, ml, MR) (d + 1) Q =
    if (x3 < (mi 38 2)) then (Xm 15 [.ref 38, .int x3] (SH L, mi, ml, MR) d (fun v μ' => X 31 17 [.ref 38, .int x1, .int x2, .int x3, .null] (v.toList ++ []) μ' (d + 1) Q)) else (Q (some (.int x2)) (SH L, mi, ml, MR)) := by
  refine (R_pure0 (ins := .iload_n 3) (len := 1) (loc' := [.ref 38, .int x1, .int x2, .int x3, .null]) (st' := [.int x3]) (by decide +kernel) (fun _ => rfl)).trans ?_
  refine (R_pure0 (ins := .aload_n 0) (len := 1) (loc' := [.ref 38, .int x1, .int x2, .int x3, .null]) (st' := [.ref 38, .int x3]) (by decide +kernel) (fun _ => rfl)).trans ?_
  refine (R_gi (i := 26) (ci := 2) (k := 2) (n := 5) (by decide +kernel) (by decide +kernel) (by decide) rfl).trans ?_
  refine (R_icmp_ge (off := 38) (t := 47) (by decide +kernel) (by decide +kernel)).trans (ite_congr rfl (fun c0 => ?_) (fun c0 => ?_))
  · refine (R_pure0 (ins := .aload_n 0) (len := 1) (loc' := [.ref 38, .int x1, .int x2, .int x3, .null]) (st' := [.ref 38]) (by decide +kernel) (fun _ => rfl)).trans ?_
    refine (R_pure0 (ins := .iload_n 3) (len := 1) (loc' := [.ref 38, .int x1, .int x2, .int x3, .null]) (st' := [.int x3, .ref 38]) (by decide +kernel) (fun _ => rfl)).trans ?_
    refine (R_virt (i := 46) (f := 15) (kd := 0) (na := 1) (ml := 2) (ci := 2) (n := 5) (b := 38) (As := [.int x3]) (rest := []) (by decide +kernel) (by decide +kernel) (by decide) (by decide +kernel) rfl (by decide +kernel) rfl rfl (by decide +kernel) (Nat.le_of_ble_eq_true rfl)).trans ?_
    rfl
  · refine (R_pure0 (ins := .iload_n 2) (len := 1) (loc' := [.ref 38, .int x1, .int x2, .int x3, .null]) (st' := [.int x2]) (by decide +kernel) (fun _ => rfl)).trans ?_
    exact R_ireturn (by decide +kernel) (by decide +kernel)
theorem s31_4v3 {L : Nat} {mi : Nat → Nat → Int32} {ml : Nat → Nat → Int64} {d : Nat} {Q : Option Value → xM → Prop} {x1 x2 x3 : Int32} {r4 : Nat} (hS_r4 : (SH L)[r4]? = some (4, 7)) : X 31 4 [.ref 38, .int x1, .int x2, .int x3, .ref r4] [] (SH L, mi, ml, MR) (d + 1) Q =
    if (x3 < (mi 38 2)) then (Xm 15 [.ref 38, .int x3] (SH L, mi, ml, MR) d (fun v μ' => X 31 17 [.ref 38, .int x1, .int x2, .int x3, .ref r4] (v.toList ++ []) μ' (d + 1) Q)) else (Q (some (.int x2)) (SH L, mi, ml, MR)) := by
  refine (R_pure0 (ins := .iload_n 3) (len := 1) (loc' := [.ref 38, .int x1, .int x2, .int x3, .ref r4]) (st' := [.int x3]) (by decide +kernel) (fun _ => rfl)).trans ?_
  refine (R_pure0 (ins := .aload_n 0) (len := 1) (loc' := [.ref 38, .int x1, .int x2, .int x3, .ref r4]) (st' := [.ref 38, .int x3]) (by decide +kernel) (fun _ => rfl)).trans ?_
  refine (R_gi (i := 26) (ci := 2) (k := 2) (n := 5) (by decide +kernel) (by decide +kernel) (by decide) rfl).trans ?_
  refine (R_icmp_ge (off := 38) (t := 47) (by decide +kernel) (by decide +kernel)).trans (ite_congr rfl (fun c0 => ?_) (fun c0 => ?_))
  · refine (R_pure0 (ins := .aload_n 0) (len := 1) (loc' := [.ref 38, .int x1, .int x2, .int x3, .ref r4]) (st' := [.ref 38]) (by decide +kernel) (fun _ => rfl)).trans ?_
    refine (R_pure0 (ins := .iload_n 3) (len := 1) (loc' := [.ref 38, .int x1, .int x2, .int x3, .ref r4]) (st' := [.int x3, .ref 38]) (by decide +kernel) (fun _ => rfl)).trans ?_
    refine (R_virt (i := 46) (f := 15) (kd := 0) (na := 1) (ml := 2) (ci := 2) (n := 5) (b := 38) (As := [.int x3]) (rest := []) (by decide +kernel) (by decide +kernel) (by decide) (by decide +kernel) rfl (by decide +kernel) rfl rfl (by decide +kernel) (Nat.le_of_ble_eq_true rfl)).trans ?_
    rfl
  · refine (R_pure0 (ins := .iload_n 2) (len := 1) (loc' := [.ref 38, .int x1, .int x2, .int x3, .ref r4]) (st' := [.int x2]) (by decide +kernel) (fun _ => rfl)).trans ?_
    exact R_ireturn (by decide +kernel) (by decide +kernel)
theorem s31_17v2 {L : Nat} {mi : Nat → Nat → Int32} {ml : Nat → Nat → Int64} {d : Nat} {Q : Option Value → xM → Prop} {x1 x2 x3 : Int32} {ry : Nat} (hS_ry : (SH L)[ry]? = some (4, 7)) : X 31 17 [.ref 38, .int x1, .int x2, .int x3, .null] [.ref ry] (SH L, mi, ml, MR) (d + 1) Q =
    Xm 60 [.ref ry, .int x1, .int (mi 38 3)] (SH L, mi, ml, MR) d (fun v μ' => X 31 39 [.ref 38, .int x1, .int x2, .int x3, .ref ry] (v.toList ++ [.int x2]) μ' (d + 1) Q) := by
  refine (R_pure0 (ins := .astore 4) (len := 2) (loc' := [.ref 38, .int x1, .int x2, .int x3, .ref ry]) (st' := []) (by decide +kernel) (fun _ => rfl)).trans ?_
  refine (R_pure0 (ins := .iload_n 2) (len := 1) (loc' := [.ref 38, .int x1, .int x2, .int x3, .ref ry]) (st' := [.int x2]) (by decide +kernel) (fun _ => rfl)).trans ?_
  refine (R_pure0 (ins := .aload 4) (len := 2) (loc' := [.ref 38, .int x1, .int x2, .int x3, .ref ry]) (st' := [.ref ry, .int x2]) (by decide +kernel) (fun _ => rfl)).trans ?_
  refine (R_ifnonnull_r (off := 7) (t := 29) (by decide +kernel) (by decide +kernel)).trans ?_
  refine (R_pure0 (ins := .aload 4) (len := 2) (loc' := [.ref 38, .int x1, .int x2, .int x3, .ref ry]) (st' := [.ref ry, .int x2]) (by decide +kernel) (fun _ => rfl)).trans ?_
  refine (R_pure0 (ins := .iload_n 1) (len := 1) (loc' := [.ref 38, .int x1, .int x2, .int x3, .ref ry]) (st' := [.int x1, .ref ry, .int x2]) (by decide +kernel) (fun _ => rfl)).trans ?_
  refine (R_pure0 (ins := .aload_n 0) (len := 1) (loc' := [.ref 38, .int x1, .int x2, .int x3, .ref ry]) (st' := [.ref 38, .int x1, .ref ry, .int x2]) (by decide +kernel) (fun _ => rfl)).trans ?_
  refine (R_gi (i := 30) (ci := 2) (k := 3) (n := 5) (by decide +kernel) (by decide +kernel) (by decide) rfl).trans ?_
  refine (R_virt (i := 114) (f := 60) (kd := 0) (na := 2) (ml := 3) (ci := 4) (n := 7) (b := ry) (As := [.int x1, .int (mi 38 3)]) (rest := [.int x2]) (by decide +kernel) (by decide +kernel) (by decide) (by decide +kernel) rfl (by decide +kernel) hS_ry rfl (by decide +kernel) (Nat.le_of_ble_eq_true rfl)).trans ?_
  rfl
theorem s31_17nv2 {L : Nat} {mi : Nat → Nat → Int32} {ml : Nat → Nat → Int64} {d : Nat} {Q : Option Value → xM → Prop} {x1 x2 x3 : Int32} : X 31 17 [.ref 38, .int x1, .int x2, .int x3, .null] [.null] (SH L, mi, ml, MR) d Q =
    X 31 4 [.ref 38, .int x1, .int (x2 + 0), .int (x3 + 1), .null] [] (SH L, mi, ml, MR) d Q := by
  refine (R_pure0 (ins := .astore 4) (len := 2) (loc' := [.ref 38, .int x1, .int x2, .int x3, .null]) (st' := []) (by decide +kernel) (fun _ => rfl)).trans ?_
  refine (R_pure0 (ins := .iload_n 2) (len := 1) (loc' := [.ref 38, .int x1, .int x2, .int x3, .null]) (st' := [.int x2]) (by decide +kernel) (fun _ => rfl)).trans ?_
  refine (R_pure0 (ins := .aload 4) (len := 2) (loc' := [.ref 38, .int x1, .int x2, .int x3, .null]) (st' := [.null, .int x2]) (by decide +kernel) (fun _ => rfl)).trans ?_
  refine (R_ifnonnull_n (off := 7) (by decide +kernel)).trans ?_
  refine (R_iconst (n := 0) (v := 0) (by decide +kernel) (by decide +kernel)).trans ?_
  refine (R_goto (off := 13) (t := 39) (by decide +kernel) (by decide +kernel)).trans ?_
  refine (R_pure0 (ins := .iadd) (len := 1) (loc' := [.ref 38, .int x1, .int x2, .int x3, .null]) (st' := [.int (x2 + 0)]) (by decide +kernel) (fun _ => rfl)).trans ?_
  refine (R_pure0 (ins := .istore_n 2) (len := 1) (loc' := [.ref 38, .int x1, .int (x2 + 0), .int x3, .null]) (st' := []) (by decide +kernel) (fun _ => rfl)).trans ?_
  refine (R_iinc (k := 3) (n := 1) (x := x3) (v := (x3 + 1)) (loc' := [.ref 38, .int x1, .int (x2 + 0), .int (x3 + 1), .null]) (by decide +kernel) rfl rfl rfl).trans ?_
  refine (R_goto (off := (-40)) (t := 4) (by decide +kernel) (by decide +kernel)).trans ?_
  rfl
theorem s31_17v3 {L : Nat} {mi : Nat → Nat → Int32} {ml : Nat → Nat → Int64} {d : Nat} {Q : Option Value → xM → Prop} {x1 x2 x3 : Int32} {r4 ry : Nat} (hS_r4 : (SH L)[r4]? = some (4, 7)) (hS_ry : (SH L)[ry]? = some (4, 7)) : X 31 17 [.ref 38, .int x1, .int x2, .int x3, .ref r4] [.ref ry] (SH L, mi, ml, MR) (d + 1) Q =
    Xm 60 [.ref ry, .int x1, .int (mi 38 3)] (SH L, mi, ml, MR) d (fun v μ' => X 31 39 [.ref 38, .int x1, .int x2, .int x3, .ref ry] (v.toList ++ [.int x2]) μ' (d + 1) Q) := by
  refine (R_pure0 (ins := .astore 4) (len := 2) (loc' := [.ref 38, .int x1, .int x2, .int x3, .ref ry]) (st' := []) (by decide +kernel) (fun _ => rfl)).trans ?_
  refine (R_pure0 (ins := .iload_n 2) (len := 1) (loc' := [.ref 38, .int x1, .int x2, .int x3, .ref ry]) (st' := [.int x2]) (by decide +kernel) (fun _ => rfl)).trans ?_
  refine (R_pure0 (ins := .aload 4) (len := 2) (loc' := [.ref 38, .int x1, .int x2, .int x3, .ref ry]) (st' := [.ref ry, .int x2]) (by decide +kernel) (fun _ => rfl)).trans ?_
  refine (R_ifnonnull_r (off := 7) (t := 29) (by decide +kernel) (by decide +kernel)).trans ?_
  refine (R_pure0 (ins := .aload 4) (len := 2) (loc' := [.ref 38, .int x1, .int x2, .int x3, .ref ry]) (st' := [.ref ry, .int x2]) (by decide +kernel) (fun _ => rfl)).trans ?_
  refine (R_pure0 (ins := .iload_n 1) (len := 1) (loc' := [.ref 38, .int x1, .int x2, .int x3, .ref ry]) (st' := [.int x1, .ref ry, .int x2]) (by decide +kernel) (fun _ => rfl)).trans ?_
  refine (R_pure0 (ins := .aload_n 0) (len := 1) (loc' := [.ref 38, .int x1, .int x2, .int x3, .ref ry]) (st' := [.ref 38, .int x1, .ref ry, .int x2]) (by decide +kernel) (fun _ => rfl)).trans ?_
  refine (R_gi (i := 30) (ci := 2) (k := 3) (n := 5) (by decide +kernel) (by decide +kernel) (by decide) rfl).trans ?_
  refine (R_virt (i := 114) (f := 60) (kd := 0) (na := 2) (ml := 3) (ci := 4) (n := 7) (b := ry) (As := [.int x1, .int (mi 38 3)]) (rest := [.int x2]) (by decide +kernel) (by decide +kernel) (by decide) (by decide +kernel) rfl (by decide +kernel) hS_ry rfl (by decide +kernel) (Nat.le_of_ble_eq_true rfl)).trans ?_
  rfl
theorem s31_17nv3 {L : Nat} {mi : Nat → Nat → Int32} {ml : Nat → Nat → Int64} {d : Nat} {Q : Option Value → xM → Prop} {x1 x2 x3 : Int32} {r4 : Nat} (hS_r4 : (SH L)[r4]? = some (4, 7)) : X 31 17 [.ref 38, .int x1, .int x2, .int x3, .ref r4] [.null] (SH L, mi, ml, MR) d Q =
    X 31 4 [.ref 38, .int x1, .int (x2 + 0), .int (x3 + 1), .null] [] (SH L, mi, ml, MR) d Q := by
  refine (R_pure0 (ins := .astore 4) (len := 2) (loc' := [.ref 38, .int x1, .int x2, .int x3, .null]) (st' := []) (by decide +kernel) (fun _ => rfl)).trans ?_
  refine (R_pure0 (ins := .iload_n 2) (len := 1) (loc' := [.ref 38, .int x1, .int x2, .int x3, .null]) (st' := [.int x2]) (by decide +kernel) (fun _ => rfl)).trans ?_
  refine (R_pure0 (ins := .aload 4) (len := 2) (loc' := [.ref 38, .int x1, .int x2, .int x3, .null]) (st' := [.null, .int x2]) (by decide +kernel) (fun _ => rfl)).trans ?_
  refine (R_ifnonnull_n (off := 7) (by decide +kernel)).trans ?_
  refine (R_iconst (n := 0) (v := 0) (by decide +kernel) (by decide +kernel)).trans ?_
  refine (R_goto (off := 13) (t := 39) (by decide +kernel) (by decide +kernel)).trans ?_
  refine (R_pure0 (ins := .iadd) (len := 1) (loc' := [.ref 38, .int x1, .int x2, .int x3, .null]) (st' := [.int (x2 + 0)]) (by decide +kernel) (fun _ => rfl)).trans ?_
  refine (R_pure0 (ins := .istore_n 2) (len := 1) (loc' := [.ref 38, .int x1, .int (x2 + 0), .int x3, .null]) (st' := []) (by decide +kernel) (fun _ => rfl)).trans ?_
  refine (R_iinc (k := 3) (n := 1) (x := x3) (v := (x3 + 1)) (loc' := [.ref 38, .int x1, .int (x2 + 0), .int (x3 + 1), .null]) (by decide +kernel) rfl rfl rfl).trans ?_
  refine (R_goto (off := (-40)) (t := 4) (by decide +kernel) (by decide +kernel)).trans ?_
  rfl
theorem s32 {L : Nat} {mi : Nat → Nat → Int32} {ml : Nat → Nat → Int64} {d : Nat} {Q : Option Value → xM → Prop} : Xm 32 [.ref 38] (SH L, mi, ml, MR) d Q =
    X 32 4 [.ref 38, .int 0, .int 0, xmk] [] (SH L, mi, ml, MR) d Q := by
  rw [Xm_ent (n := 4) (loc := [.ref 38, xmk, xmk, xmk]) (by decide +kernel) rfl]
  refine (R_iconst (n := 0) (v := 0) (by decide +kernel) (by decide +kernel)).trans ?_
  refine (R_pure0 (ins := .istore_n 1) (len := 1) (loc' := [.ref 38, .int 0, xmk, xmk]) (st' := []) (by decide +kernel) (fun _ => rfl)).trans ?_
  refine (R_iconst (n := 0) (v := 0) (by decide +kernel) (by decide +kernel)).trans ?_
  refine (R_pure0 (ins := .istore_n 2) (len := 1) (loc' := [.ref 38, .int 0, .int 0, xmk]) (st' := []) (by decide +kernel) (fun _ => rfl)).trans ?_
  rfl
theorem s32_4 {L : Nat} {mi : Nat → Nat → Int32} {ml : Nat → Nat → Int64} {d : Nat} {Q : Option Value → xM → Prop} {x1 x2 : Int32} : X 32 4 [.ref 38, .int x1, .int x2, xmk] [] (SH L, mi, ml, MR) (d + 1) Q =
    if (x2 < (mi 38 2)) then (Xm 15 [.ref 38, .int x2] (SH L, mi, ml, MR) d (fun v μ' => X 32 17 [.ref 38, .int x1, .int x2, xmk] (v.toList ++ []) μ' (d + 1) Q)) else (Q (some (.int x1)) (SH L, mi, ml, MR)) := by
  refine (R_pure0 (ins := .iload_n 2) (len := 1) (loc' := [.ref 38, .int x1, .int x2, xmk]) (st' := [.int x2]) (by decide +kernel) (fun _ => rfl)).trans ?_
  refine (R_pure0 (ins := .aload_n 0) (len := 1) (loc' := [.ref 38, .int x1, .int x2, xmk]) (st' := [.ref 38, .int x2]) (by decide +kernel) (fun _ => rfl)).trans ?_
  refine (R_gi (i := 26) (ci := 2) (k := 2) (n := 5) (by decide +kernel) (by decide +kernel) (by decide) rfl).trans ?_
  refine (R_icmp_ge (off := 38) (t := 47) (by decide +kernel) (by decide +kernel)).trans (ite_congr rfl (fun c0 => ?_) (fun c0 => ?_))
  · refine (R_pure0 (ins := .aload_n 0) (len := 1) (loc' := [.ref 38, .int x1, .int x2, xmk]) (st' := [.ref 38]) (by decide +kernel) (fun _ => rfl)).trans ?_
    refine (R_pure0 (ins := .iload_n 2) (len := 1) (loc' := [.ref 38, .int x1, .int x2, xmk]) (st' := [.int x2, .ref 38]) (by decide +kernel) (fun _ => rfl)).trans ?_
    refine (R_virt (i := 46) (f := 15) (kd := 0) (na := 1) (ml := 2) (ci := 2) (n := 5) (b := 38) (As := [.int x2]) (rest := []) (by decide +kernel) (by decide +kernel) (by decide) (by decide +kernel) rfl (by decide +kernel) rfl rfl (by decide +kernel) (Nat.le_of_ble_eq_true rfl)).trans ?_
    rfl
  · refine (R_pure0 (ins := .iload_n 1) (len := 1) (loc' := [.ref 38, .int x1, .int x2, xmk]) (st' := [.int x1]) (by decide +kernel) (fun _ => rfl)).trans ?_
    exact R_ireturn (by decide +kernel) (by decide +kernel)
theorem s32_17 {L : Nat} {mi : Nat → Nat → Int32} {ml : Nat → Nat → Int64} {d : Nat} {Q : Option Value → xM → Prop} {x1 x2 : Int32} {ry : Nat} (hS_ry : (SH L)[ry]? = some (4, 7)) : X 32 17 [.ref 38, .int x1, .int x2, xmk] [.ref ry] (SH L, mi, ml, MR) (d + 1) Q =
    Xm 45 [.int (mi ry 0), .int 1] (SH L, mi, ml, MR) d (fun v μ' => X 32 31 [.ref 38, .int x1, .int x2, .ref ry] (v.toList ++ [.int x1]) μ' (d + 1) Q) := by
  refine (R_pure0 (ins := .astore_n 3) (len := 1) (loc' := [.ref 38, .int x1, .int x2, .ref ry]) (st' := []) (by decide +kernel) (fun _ => rfl)).trans ?_
  refine (R_pure0 (ins := .iload_n 1) (len := 1) (loc' := [.ref 38, .int x1, .int x2, .ref ry]) (st' := [.int x1]) (by decide +kernel) (fun _ => rfl)).trans ?_
  refine (R_pure0 (ins := .aload_n 3) (len := 1) (loc' := [.ref 38, .int x1, .int x2, .ref ry]) (st' := [.ref ry, .int x1]) (by decide +kernel) (fun _ => rfl)).trans ?_
  refine (R_ifnull_r (off := 18) (by decide +kernel)).trans ?_
  refine (R_pure0 (ins := .aload_n 3) (len := 1) (loc' := [.ref 38, .int x1, .int x2, .ref ry]) (st' := [.ref ry, .int x1]) (by decide +kernel) (fun _ => rfl)).trans ?_
  refine (R_gi (i := 118) (ci := 4) (k := 0) (n := 7) (by decide +kernel) (by decide +kernel) (by decide) hS_ry).trans ?_
  refine (R_iconst (n := 1) (v := 1) (by decide +kernel) (by decide +kernel)).trans ?_
  refine (R_static (i := 121) (f := 45) (kd := 2) (na := 2) (ml := 2) (As := [.int (mi ry 0), .int 1]) (rest := [.int x1]) (by decide +kernel) (by decide +kernel) (by decide) (by decide +kernel) rfl rfl (by decide +kernel) (Nat.le_of_ble_eq_true rfl)).trans ?_
  rfl
theorem s32_17n {L : Nat} {mi : Nat → Nat → Int32} {ml : Nat → Nat → Int64} {d : Nat} {Q : Option Value → xM → Prop} {x1 x2 : Int32} : X 32 17 [.ref 38, .int x1, .int x2, xmk] [.null] (SH L, mi, ml, MR) d Q =
    X 32 4 [.ref 38, .int (x1 + 0), .int (x2 + 1), .null] [] (SH L, mi, ml, MR) d Q := by
  refine (R_pure0 (ins := .astore_n 3) (len := 1) (loc' := [.ref 38, .int x1, .int x2, .null]) (st' := []) (by decide +kernel) (fun _ => rfl)).trans ?_
  refine (R_pure0 (ins := .iload_n 1) (len := 1) (loc' := [.ref 38, .int x1, .int x2, .null]) (st' := [.int x1]) (by decide +kernel) (fun _ => rfl)).trans ?_
  refine (R_pure0 (ins := .aload_n 3) (len := 1) (loc' := [.ref 38, .int x1, .int x2, .null]) (st' := [.null, .int x1]) (by decide +kernel) (fun _ => rfl)).trans ?_
  refine (R_ifnull_n (off := 18) (t := 38) (by decide +kernel) (by decide +kernel)).trans ?_
  refine (R_iconst (n := 0) (v := 0) (by decide +kernel) (by decide +kernel)).trans ?_
  refine (R_pure0 (ins := .iadd) (len := 1) (loc' := [.ref 38, .int x1, .int x2, .null]) (st' := [.int (x1 + 0)]) (by decide +kernel) (fun _ => rfl)).trans ?_
  refine (R_pure0 (ins := .istore_n 1) (len := 1) (loc' := [.ref 38, .int (x1 + 0), .int x2, .null]) (st' := []) (by decide +kernel) (fun _ => rfl)).trans ?_
  refine (R_iinc (k := 2) (n := 1) (x := x2) (v := (x2 + 1)) (loc' := [.ref 38, .int (x1 + 0), .int (x2 + 1), .null]) (by decide +kernel) rfl rfl rfl).trans ?_
  refine (R_goto (off := (-40)) (t := 4) (by decide +kernel) (by decide +kernel)).trans ?_
  rfl
theorem s32_31 {L : Nat} {mi : Nat → Nat → Int32} {ml : Nat → Nat → Int64} {d : Nat} {Q : Option Value → xM → Prop} {x1 x2 y z0 : Int32} {r3 : Nat} (hS_r3 : (SH L)[r3]? = some (4, 7)) : X 32 31 [.ref 38, .int x1, .int x2, .ref r3] [.int y, .int z0] (SH L, mi, ml, MR) d Q =
    if (y = 0) then (X 32 4 [.ref 38, .int (z0 + 0), .int (x2 + 1), .ref r3] [] (SH L, mi, ml, MR) d Q) else (X 32 4 [.ref 38, .int (z0 + 1), .int (x2 + 1), .ref r3] [] (SH L, mi, ml, MR) d Q) := by
  refine (R_if_eq (off := 7) (t := 38) (by decide +kernel) (by decide +kernel)).trans (ite_congr rfl (fun c0 => ?_) (fun c0 => ?_))
  · refine (R_iconst (n := 0) (v := 0) (by decide +kernel) (by decide +kernel)).trans ?_
    refine (R_pure0 (ins := .iadd) (len := 1) (loc' := [.ref 38, .int x1, .int x2, .ref r3]) (st' := [.int (z0 + 0)]) (by decide +kernel) (fun _ => rfl)).trans ?_
    refine (R_pure0 (ins := .istore_n 1) (len := 1) (loc' := [.ref 38, .int (z0 + 0), .int x2, .ref r3]) (st' := []) (by decide +kernel) (fun _ => rfl)).trans ?_
    refine (R_iinc (k := 2) (n := 1) (x := x2) (v := (x2 + 1)) (loc' := [.ref 38, .int (z0 + 0), .int (x2 + 1), .ref r3]) (by decide +kernel) rfl rfl rfl).trans ?_
    refine (R_goto (off := (-40)) (t := 4) (by decide +kernel) (by decide +kernel)).trans ?_
    rfl
  · refine (R_iconst (n := 1) (v := 1) (by decide +kernel) (by decide +kernel)).trans ?_
    refine (R_goto (off := 4) (t := 39) (by decide +kernel) (by decide +kernel)).trans ?_
    refine (R_pure0 (ins := .iadd) (len := 1) (loc' := [.ref 38, .int x1, .int x2, .ref r3]) (st' := [.int (z0 + 1)]) (by decide +kernel) (fun _ => rfl)).trans ?_
    refine (R_pure0 (ins := .istore_n 1) (len := 1) (loc' := [.ref 38, .int (z0 + 1), .int x2, .ref r3]) (st' := []) (by decide +kernel) (fun _ => rfl)).trans ?_
    refine (R_iinc (k := 2) (n := 1) (x := x2) (v := (x2 + 1)) (loc' := [.ref 38, .int (z0 + 1), .int (x2 + 1), .ref r3]) (by decide +kernel) rfl rfl rfl).trans ?_
    refine (R_goto (off := (-40)) (t := 4) (by decide +kernel) (by decide +kernel)).trans ?_
    rfl
theorem s32_4v2 {L : Nat} {mi : Nat → Nat → Int32} {ml : Nat → Nat → Int64} {d : Nat} {Q : Option Value → xM → Prop} {x1 x2 : Int32} : X 32 4 [.ref 38, .int x1, .int x2, .null] [] (SH L, mi, ml, MR) (d + 1) Q =
    if (x2 < (mi 38 2)) then (Xm 15 [.ref 38, .int x2] (SH L, mi, ml, MR) d (fun v μ' => X 32 17 [.ref 38, .int x1, .int x2, .null] (v.toList ++ []) μ' (d + 1) Q)) else (Q (some (.int x1)) (SH L, mi, ml, MR)) := by
  refine (R_pure0 (ins := .iload_n 2) (len := 1) (loc' := [.ref 38, .int x1, .int x2, .null]) (st' := [.int x2]) (by decide +kernel) (fun _ => rfl)).trans ?_
  refine (R_pure0 (ins := .aload_n 0) (len := 1) (loc' := [.ref 38, .int x1, .int x2, .null]) (st' := [.ref 38, .int x2]) (by decide +kernel) (fun _ => rfl)).trans ?_
  refine (R_gi (i := 26) (ci := 2) (k := 2) (n := 5) (by decide +kernel) (by decide +kernel) (by decide) rfl).trans ?_
  refine (R_icmp_ge (off := 38) (t := 47) (by decide +kernel) (by decide +kernel)).trans (ite_congr rfl (fun c0 => ?_) (fun c0 => ?_))
  · refine (R_pure0 (ins := .aload_n 0) (len := 1) (loc' := [.ref 38, .int x1, .int x2, .null]) (st' := [.ref 38]) (by decide +kernel) (fun _ => rfl)).trans ?_
    refine (R_pure0 (ins := .iload_n 2) (len := 1) (loc' := [.ref 38, .int x1, .int x2, .null]) (st' := [.int x2, .ref 38]) (by decide +kernel) (fun _ => rfl)).trans ?_
    refine (R_virt (i := 46) (f := 15) (kd := 0) (na := 1) (ml := 2) (ci := 2) (n := 5) (b := 38) (As := [.int x2]) (rest := []) (by decide +kernel) (by decide +kernel) (by decide) (by decide +kernel) rfl (by decide +kernel) rfl rfl (by decide +kernel) (Nat.le_of_ble_eq_true rfl)).trans ?_
    rfl
  · refine (R_pure0 (ins := .iload_n 1) (len := 1) (loc' := [.ref 38, .int x1, .int x2, .null]) (st' := [.int x1]) (by decide +kernel) (fun _ => rfl)).trans ?_
    exact R_ireturn (by decide +kernel) (by decide +kernel)
theorem s32_4v3 {L : Nat} {mi : Nat → Nat → Int32} {ml : Nat → Nat → Int64} {d : Nat} {Q : Option Value → xM → Prop} {x1 x2 : Int32} {r3 : Nat} (hS_r3 : (SH L)[r3]? = some (4, 7)) : X 32 4 [.ref 38, .int x1, .int x2, .ref r3] [] (SH L, mi, ml, MR) (d + 1) Q =
    if (x2 < (mi 38 2)) then (Xm 15 [.ref 38, .int x2] (SH L, mi, ml, MR) d (fun v μ' => X 32 17 [.ref 38, .int x1, .int x2, .ref r3] (v.toList ++ []) μ' (d + 1) Q)) else (Q (some (.int x1)) (SH L, mi, ml, MR)) := by
  refine (R_pure0 (ins := .iload_n 2) (len := 1) (loc' := [.ref 38, .int x1, .int x2, .ref r3]) (st' := [.int x2]) (by decide +kernel) (fun _ => rfl)).trans ?_
  refine (R_pure0 (ins := .aload_n 0) (len := 1) (loc' := [.ref 38, .int x1, .int x2, .ref r3]) (st' := [.ref 38, .int x2]) (by decide +kernel) (fun _ => rfl)).trans ?_
  refine (R_gi (i := 26) (ci := 2) (k := 2) (n := 5) (by decide +kernel) (by decide +kernel) (by decide) rfl).trans ?_
  refine (R_icmp_ge (off := 38) (t := 47) (by decide +kernel) (by decide +kernel)).trans (ite_congr rfl (fun c0 => ?_) (fun c0 => ?_))
  · refine (R_pure0 (ins := .aload_n 0) (len := 1) (loc' := [.ref 38, .int x1, .int x2, .ref r3]) (st' := [.ref 38]) (by decide +kernel) (fun _ => rfl)).trans ?_
    refine (R_pure0 (ins := .iload_n 2) (len := 1) (loc' := [.ref 38, .int x1, .int x2, .ref r3]) (st' := [.int x2, .ref 38]) (by decide +kernel) (fun _ => rfl)).trans ?_
    refine (R_virt (i := 46) (f := 15) (kd := 0) (na := 1) (ml := 2) (ci := 2) (n := 5) (b := 38) (As := [.int x2]) (rest := []) (by decide +kernel) (by decide +kernel) (by decide) (by decide +kernel) rfl (by decide +kernel) rfl rfl (by decide +kernel) (Nat.le_of_ble_eq_true rfl)).trans ?_
    rfl
  · refine (R_pure0 (ins := .iload_n 1) (len := 1) (loc' := [.ref 38, .int x1, .int x2, .ref r3]) (st' := [.int x1]) (by decide +kernel) (fun _ => rfl)).trans ?_
    exact R_ireturn (by decide +kernel) (by decide +kernel)
theorem s32_17v2 {L : Nat} {mi : Nat → Nat → Int32} {ml : Nat → Nat → Int64} {d : Nat} {Q : Option Value → xM → Prop} {x1 x2 : Int32} {ry : Nat} (hS_ry : (SH L)[ry]? = some (4, 7)) : X 32 17 [.ref 38, .int x1, .int x2, .null] [.ref ry] (SH L, mi, ml, MR) (d + 1) Q =
    Xm 45 [.int (mi ry 0), .int 1] (SH L, mi, ml, MR) d (fun v μ' => X 32 31 [.ref 38, .int x1, .int x2, .ref ry] (v.toList ++ [.int x1]) μ' (d + 1) Q) := by
  refine (R_pure0 (ins := .astore_n 3) (len := 1) (loc' := [.ref 38, .int x1, .int x2, .ref ry]) (st' := []) (by decide +kernel) (fun _ => rfl)).trans ?_
  refine (R_pure0 (ins := .iload_n 1) (len := 1) (loc' := [.ref 38, .int x1, .int x2, .ref ry]) (st' := [.int x1]) (by decide +kernel) (fun _ => rfl)).trans ?_
  refine (R_pure0 (ins := .aload_n 3) (len := 1) (loc' := [.ref 38, .int x1, .int x2, .ref ry]) (st' := [.ref ry, .int x1]) (by decide +kernel) (fun _ => rfl)).trans ?_
  refine (R_ifnull_r (off := 18) (by decide +kernel)).trans ?_
  refine (R_pure0 (ins := .aload_n 3) (len := 1) (loc' := [.ref 38, .int x1, .int x2, .ref ry]) (st' := [.ref ry, .int x1]) (by decide +kernel) (fun _ => rfl)).trans ?_
  refine (R_gi (i := 118) (ci := 4) (k := 0) (n := 7) (by decide +kernel) (by decide +kernel) (by decide) hS_ry).trans ?_
  refine (R_iconst (n := 1) (v := 1) (by decide +kernel) (by decide +kernel)).trans ?_
  refine (R_static (i := 121) (f := 45) (kd := 2) (na := 2) (ml := 2) (As := [.int (mi ry 0), .int 1]) (rest := [.int x1]) (by decide +kernel) (by decide +kernel) (by decide) (by decide +kernel) rfl rfl (by decide +kernel) (Nat.le_of_ble_eq_true rfl)).trans ?_
  rfl
theorem s32_17nv2 {L : Nat} {mi : Nat → Nat → Int32} {ml : Nat → Nat → Int64} {d : Nat} {Q : Option Value → xM → Prop} {x1 x2 : Int32} : X 32 17 [.ref 38, .int x1, .int x2, .null] [.null] (SH L, mi, ml, MR) d Q =
    X 32 4 [.ref 38, .int (x1 + 0), .int (x2 + 1), .null] [] (SH L, mi, ml, MR) d Q := by
  refine (R_pure0 (ins := .astore_n 3) (len := 1) (loc' := [.ref 38, .int x1, .int x2, .null]) (st' := []) (by decide +kernel) (fun _ => rfl)).trans ?_
  refine (R_pure0 (ins := .iload_n 1) (len := 1) (loc' := [.ref 38, .int x1, .int x2, .null]) (st' := [.int x1]) (by decide +kernel) (fun _ => rfl)).trans ?_
  refine (R_pure0 (ins := .aload_n 3) (len := 1) (loc' := [.ref 38, .int x1, .int x2, .null]) (st' := [.null, .int x1]) (by decide +kernel) (fun _ => rfl)).trans ?_
  refine (R_ifnull_n (off := 18) (t := 38) (by decide +kernel) (by decide +kernel)).trans ?_
  refine (R_iconst (n := 0) (v := 0) (by decide +kernel) (by decide +kernel)).trans ?_
  refine (R_pure0 (ins := .iadd) (len := 1) (loc' := [.ref 38, .int x1, .int x2, .null]) (st' := [.int (x1 + 0)]) (by decide +kernel) (fun _ => rfl)).trans ?_
  refine (R_pure0 (ins := .istore_n 1) (len := 1) (loc' := [.ref 38, .int (x1 + 0), .int x2, .null]) (st' := []) (by decide +kernel) (fun _ => rfl)).trans ?_
  refine (R_iinc (k := 2) (n := 1) (x := x2) (v := (x2 + 1)) (loc' := [.ref 38, .int (x1 + 0), .int (x2 + 1), .null]) (by decide +kernel) rfl rfl rfl).trans ?_
  refine (R_goto (off := (-40)) (t := 4) (by decide +kernel) (by decide +kernel)).trans ?_
  rfl
theorem s32_17v3 {L : Nat} {mi : Nat → Nat → Int32} {ml : Nat → Nat → Int64} {d : Nat} {Q : Option Value → xM → Prop} {x1 x2 : Int32} {r3 ry : Nat} (hS_r3 : (SH L)[r3]? = some (4, 7)) (hS_ry : (SH L)[ry]? = some (4, 7)) : X 32 17 [.ref 38, .int x1, .int x2, .ref r3] [.ref ry] (SH L, mi, ml, MR) (d + 1) Q =
    Xm 45 [.int (mi ry 0), .int 1] (SH L, mi, ml, MR) d (fun v μ' => X 32 31 [.ref 38, .int x1, .int x2, .ref ry] (v.toList ++ [.int x1]) μ' (d + 1) Q) := by
  refine (R_pure0 (ins := .astore_n 3) (len := 1) (loc' := [.ref 38, .int x1, .int x2, .ref ry]) (st' := []) (by decide +kernel) (fun _ => rfl)).trans ?_
  refine (R_pure0 (ins := .iload_n 1) (len := 1) (loc' := [.ref 38, .int x1, .int x2, .ref ry]) (st' := [.int x1]) (by decide +kernel) (fun _ => rfl)).trans ?_
  refine (R_pure0 (ins := .aload_n 3) (len := 1) (loc' := [.ref 38, .int x1, .int x2, .ref ry]) (st' := [.ref ry, .int x1]) (by decide +kernel) (fun _ => rfl)).trans ?_
  refine (R_ifnull_r (off := 18) (by decide +kernel)).trans ?_
  refine (R_pure0 (ins := .aload_n 3) (len := 1) (loc' := [.ref 38, .int x1, .int x2, .ref ry]) (st' := [.ref ry, .int x1]) (by decide +kernel) (fun _ => rfl)).trans ?_
  refine (R_gi (i := 118) (ci := 4) (k := 0) (n := 7) (by decide +kernel) (by decide +kernel) (by decide) hS_ry).trans ?_
  refine (R_iconst (n := 1) (v := 1) (by decide +kernel) (by decide +kernel)).trans ?_
  refine (R_static (i := 121) (f := 45) (kd := 2) (na := 2) (ml := 2) (As := [.int (mi ry 0), .int 1]) (rest := [.int x1]) (by decide +kernel) (by decide +kernel) (by decide) (by decide +kernel) rfl rfl (by decide +kernel) (Nat.le_of_ble_eq_true rfl)).trans ?_
  rfl
theorem s32_17nv3 {L : Nat} {mi : Nat → Nat → Int32} {ml : Nat → Nat → Int64} {d : Nat} {Q : Option Value → xM → Prop} {x1 x2 : Int32} {r3 : Nat} (hS_r3 : (SH L)[r3]? = some (4, 7)) : X 32 17 [.ref 38, .int x1, .int x2, .ref r3] [.null] (SH L, mi, ml, MR) d Q =
    X 32 4 [.ref 38, .int (x1 + 0), .int (x2 + 1), .null] [] (SH L, mi, ml, MR) d Q := by
  refine (R_pure0 (ins := .astore_n 3) (len := 1) (loc' := [.ref 38, .int x1, .int x2, .null]) (st' := []) (by decide +kernel) (fun _ => rfl)).trans ?_
  refine (R_pure0 (ins := .iload_n 1) (len := 1) (loc' := [.ref 38, .int x1, .int x2, .null]) (st' := [.int x1]) (by decide +kernel) (fun _ => rfl)).trans ?_
  refine (R_pure0 (ins := .aload_n 3) (len := 1) (loc' := [.ref 38, .int x1, .int x2, .null]) (st' := [.null, .int x1]) (by decide +kernel) (fun _ => rfl)).trans ?_
  refine (R_ifnull_n (off := 18) (t := 38) (by decide +kernel) (by decide +kernel)).trans ?_
  refine (R_iconst (n := 0) (v := 0) (by decide +kernel) (by decide +kernel)).trans ?_
  refine (R_pure0 (ins := .iadd) (len := 1) (loc' := [.ref 38, .int x1, .int x2, .null]) (st' := [.int (x1 + 0)]) (by decide +kernel) (fun _ => rfl)).trans ?_
  refine (R_pure0 (ins := .istore_n 1) (len := 1) (loc' := [.ref 38, .int (x1 + 0), .int x2, .null]) (st' := []) (by decide +kernel) (fun _ => rfl)).trans ?_
  refine (R_iinc (k := 2) (n := 1) (x := x2) (v := (x2 + 1)) (loc' := [.ref 38, .int (x1 + 0), .int (x2 + 1), .null]) (by decide +kernel) rfl rfl rfl).trans ?_
  refine (R_goto (off := (-40)) (t := 4) (by decide +kernel) (by decide +kernel)).trans ?_
  rfl
theorem s64 {L : Nat} {mi : Nat → Nat → Int32} {ml : Nat → Nat → Int64} {d : Nat} {Q : Option Value → xM → Prop} {r1 : Nat} {n_r1 : Nat} (hS_r1 : isStrip L r1 n_r1) : Xm 64 [.ref 35, .ref r1] (SH L, mi, ml, MR) (d + 1) Q =
    Xm 92 [.ref 36, .int 0, .int 0] (SH L, mi, ml, MR) d (fun v μ' => X 64 9 [.ref 35, .ref r1, xmk, xmk, xmk, xmk, xmk] (v.toList ++ []) μ' (d + 1) Q) := by
  rw [Xm_ent (n := 7) (loc := [.ref 35, .ref r1, xmk, xmk, xmk, xmk, xmk]) (by decide +kernel) rfl]
  refine (R_pure0 (ins := .aload_n 0) (len := 1) (loc' := [.ref 35, .ref r1, xmk, xmk, xmk, xmk, xmk]) (st' := [.ref 35]) (by decide +kernel) (fun _ => rfl)).trans ?_
  refine (R_gr (i := 16) (ci := 5) (k := 0) (n := 1) (b := 36) (by decide +kernel) (by decide +kernel) (by decide) rfl (SH_ref (by decide +kernel))).trans ?_
  refine (R_iconst (n := 0) (v := 0) (by decide +kernel) (by decide +kernel)).trans ?_
  refine (R_iconst (n := 0) (v := 0) (by decide +kernel) (by decide +kernel)).trans ?_
  refine (R_virt (i := 20) (f := 92) (kd := 0) (na := 2) (ml := 4) (ci := 8) (n := 2) (b := 36) (As := [.int 0, .int 0]) (rest := []) (by decide +kernel) (by decide +kernel) (by decide) (by decide +kernel) rfl (by decide +kernel) rfl rfl (by decide +kernel) (Nat.le_of_ble_eq_true rfl)).trans ?_
  rfl
theorem s64n {L : Nat} {mi : Nat → Nat → Int32} {ml : Nat → Nat → Int64} {d : Nat} {Q : Option Value → xM → Prop} : Xm 64 [.ref 35, .null] (SH L, mi, ml, MR) (d + 1) Q =
    Xm 92 [.ref 36, .int 0, .int 0] (SH L, mi, ml, MR) d (fun v μ' => X 64 9 [.ref 35, .null, xmk, xmk, xmk, xmk, xmk] (v.toList ++ []) μ' (d + 1) Q) := by
  rw [Xm_ent (n := 7) (loc := [.ref 35, .null, xmk, xmk, xmk, xmk, xmk]) (by decide +kernel) rfl]
  refine (R_pure0 (ins := .aload_n 0) (len := 1) (loc' := [.ref 35, .null, xmk, xmk, xmk, xmk, xmk]) (st' := [.ref 35]) (by decide +kernel) (fun _ => rfl)).trans ?_
  refine (R_gr (i := 16) (ci := 5) (k := 0) (n := 1) (b := 36) (by decide +kernel) (by decide +kernel) (by decide) rfl (SH_ref (by decide +kernel))).trans ?_
  refine (R_iconst (n := 0) (v := 0) (by decide +kernel) (by decide +kernel)).trans ?_
  refine (R_iconst (n := 0) (v := 0) (by decide +kernel) (by decide +kernel)).trans ?_
  refine (R_virt (i := 20) (f := 92) (kd := 0) (na := 2) (ml := 4) (ci := 8) (n := 2) (b := 36) (As := [.int 0, .int 0]) (rest := []) (by decide +kernel) (by decide +kernel) (by decide) (by decide +kernel) rfl (by decide +kernel) rfl rfl (by decide +kernel) (Nat.le_of_ble_eq_true rfl)).trans ?_
  rfl
theorem s64_9 {L : Nat} {mi : Nat → Nat → Int32} {ml : Nat → Nat → Int64} {d : Nat} {Q : Option Value → xM → Prop} {r1 : Nat} {n_r1 : Nat} (hS_r1 : isStrip L r1 n_r1) : X 64 9 [.ref 35, .ref r1, xmk, xmk, xmk, xmk, xmk] [] (SH L, mi, ml, MR) (d + 1) Q =
    Xm 88 [.ref r1] (SH L, mi, ml, MR) d (fun v μ' => X 64 21 [.ref 35, .ref r1, xmk, xmk, xmk, xmk, xmk] (v.toList ++ []) μ' (d + 1) Q) := by
  refine (R_pure0 (ins := .aload_n 1) (len := 1) (loc' := [.ref 35, .ref r1, xmk, xmk, xmk, xmk, xmk]) (st' := [.ref r1]) (by decide +kernel) (fun _ => rfl)).trans ?_
  refine (R_ifnonnull_r (off := 7) (t := 17) (by decide +kernel) (by decide +kernel)).trans ?_
  refine (R_pure0 (ins := .aload_n 1) (len := 1) (loc' := [.ref 35, .ref r1, xmk, xmk, xmk, xmk, xmk]) (st' := [.ref r1]) (by decide +kernel) (fun _ => rfl)).trans ?_
  refine (R_virt (i := 24) (f := 88) (kd := 0) (na := 0) (ml := 1) (ci := 8) (n := 2) (b := r1) (As := []) (rest := []) (by decide +kernel) (by decide +kernel) (by decide) (by decide +kernel) rfl (by decide +kernel) hS_r1.1 rfl (by decide +kernel) (Nat.le_of_ble_eq_true rfl)).trans ?_
  rfl
theorem s64_9v2 {L : Nat} {mi : Nat → Nat → Int32} {ml : Nat → Nat → Int64} {d : Nat} {Q : Option Value → xM → Prop} : X 64 9 [.ref 35, .null, xmk, xmk, xmk, xmk, xmk] [] (SH L, mi, ml, MR) d Q =
    X 64 24 [.ref 35, .null, .int 0, .int 0, xmk, xmk, xmk] [] (SH L, mi, ml, MR) d Q := by
  refine (R_pure0 (ins := .aload_n 1) (len := 1) (loc' := [.ref 35, .null, xmk, xmk, xmk, xmk, xmk]) (st' := [.null]) (by decide +kernel) (fun _ => rfl)).trans ?_
  refine (R_ifnonnull_n (off := 7) (by decide +kernel)).trans ?_
  refine (R_iconst (n := 0) (v := 0) (by decide +kernel) (by decide +kernel)).trans ?_
  refine (R_goto (off := 7) (t := 21) (by decide +kernel) (by decide +kernel)).trans ?_
  refine (R_pure0 (ins := .istore_n 2) (len := 1) (loc' := [.ref 35, .null, .int 0, xmk, xmk, xmk, xmk]) (st' := []) (by decide +kernel) (fun _ => rfl)).trans ?_
  refine (R_iconst (n := 0) (v := 0) (by decide +kernel) (by decide +kernel)).trans ?_
  refine (R_pure0 (ins := .istore_n 3) (len := 1) (loc' := [.ref 35, .null, .int 0, .int 0, xmk, xmk, xmk]) (st' := []) (by decide +kernel) (fun _ => rfl)).trans ?_
  rfl
theorem s64_21 {L : Nat} {mi : Nat → Nat → Int32} {ml : Nat → Nat → Int64} {d : Nat} {Q : Option Value → xM → Prop} {y : Int32} {r1 : Nat} {n_r1 : Nat} (hS_r1 : isStrip L r1 n_r1) : X 64 21 [.ref 35, .ref r1, xmk, xmk, xmk, xmk, xmk] [.int y] (SH L, mi, ml, MR) d Q =
    X 64 24 [.ref 35, .ref r1, .int y, .int 0, xmk, xmk, xmk] [] (SH L, mi, ml, MR) d Q := by
  refine (R_pure0 (ins := .istore_n 2) (len := 1) (loc' := [.ref 35, .ref r1, .int y, xmk, xmk, xmk, xmk]) (st' := []) (by decide +kernel) (fun _ => rfl)).trans ?_
  refine (R_iconst (n := 0) (v := 0) (by decide +kernel) (by decide +kernel)).trans ?_
  refine (R_pure0 (ins := .istore_n 3) (len := 1) (loc' := [.ref 35, .ref r1, .int y, .int 0, xmk, xmk, xmk]) (st' := []) (by decide +kernel) (fun _ => rfl)).trans ?_
  rfl
-- not made: s64_24: call on ('N', '')
theorem s64_24v2 {L : Nat} {mi : Nat → Nat → Int32} {ml : Nat → Nat → Int64} {d : Nat} {Q : Option Value → xM → Prop} {x2 x3 : Int32} {r1 : Nat} {n_r1 : Nat} (hS_r1 : isStrip L r1 n_r1) : X 64 24 [.ref 35, .ref r1, .int x2, .int x3, xmk, xmk, xmk] [] (SH L, mi, ml, MR) (d + 1) Q =
    if (x3 < x2) then (Xm 90 [.ref r1, .int x3] (SH L, mi, ml, MR) d (fun v μ' => X 64 34 [.ref 35, .ref r1, .int x2, .int x3, xmk, xmk, xmk] (v.toList ++ []) μ' (d + 1) Q)) else (Xm 88 [.ref 36] (SH L, mi, ml, MR) d (fun v μ' => X 64 109 [.ref 35, .ref r1, .int x2, .int x3, xmk, xmk, xmk] (v.toList ++ []) μ' (d + 1) Q)) := by
  refine (R_pure0 (ins := .iload_n 3) (len := 1) (loc' := [.ref 35, .ref r1, .int x2, .int x3, xmk, xmk, xmk]) (st' := [.int x3]) (by decide +kernel) (fun _ => rfl)).trans ?_
  refine (R_pure0 (ins := .iload_n 2) (len := 1) (loc' := [.ref 35, .ref r1, .int x2, .int x3, xmk, xmk, xmk]) (st' := [.int x2, .int x3]) (by decide +kernel) (fun _ => rfl)).trans ?_
  refine (R_icmp_ge (off := 76) (t := 102) (by decide +kernel) (by decide +kernel)).trans (ite_congr rfl (fun c0 => ?_) (fun c0 => ?_))
  · refine (R_pure0 (ins := .aload_n 1) (len := 1) (loc' := [.ref 35, .ref r1, .int x2, .int x3, xmk, xmk, xmk]) (st' := [.ref r1]) (by decide +kernel) (fun _ => rfl)).trans ?_
    refine (R_pure0 (ins := .iload_n 3) (len := 1) (loc' := [.ref 35, .ref r1, .int x2, .int x3, xmk, xmk, xmk]) (st' := [.int x3, .ref r1]) (by decide +kernel) (fun _ => rfl)).trans ?_
    refine (R_virt (i := 28) (f := 90) (kd := 0) (na := 1) (ml := 2) (ci := 8) (n := 2) (b := r1) (As := [.int x3]) (rest := []) (by decide +kernel) (by decide +kernel) (by decide) (by decide +kernel) rfl (by decide +kernel) hS_r1.1 rfl (by decide +kernel) (Nat.le_of_ble_eq_true rfl)).trans ?_
    rfl
  · refine (R_pure0 (ins := .aload_n 0) (len := 1) (loc' := [.ref 35, .ref r1, .int x2, .int x3, xmk, xmk, xmk]) (st' := [.ref 35]) (by decide +kernel) (fun _ => rfl)).trans ?_
    refine (R_gr (i := 16) (ci := 5) (k := 0) (n := 1) (b := 36) (by decide +kernel) (by decide +kernel) (by decide) rfl (SH_ref (by decide +kernel))).trans ?_
    refine (R_virt (i := 24) (f := 88) (kd := 0) (na := 0) (ml := 1) (ci := 8) (n := 2) (b := 36) (As := []) (rest := []) (by decide +kernel) (by decide +kernel) (by decide) (by decide +kernel) rfl (by decide +kernel) rfl rfl (by decide +kernel) (Nat.le_of_ble_eq_true rfl)).trans ?_
    rfl
theorem s64_34 {L : Nat} {mi : Nat → Nat → Int32} {ml : Nat → Nat → Int64} {d : Nat} {Q : Option Value → xM → Prop} {x2 x3 y : Int32} {r1 : Nat} {n_r1 : Nat} (hS_r1 : isStrip L r1 n_r1) : X 64 34 [.ref 35, .ref r1, .int x2, .int x3, xmk, xmk, xmk] [.int y] (SH L, mi, ml, MR) (d + 1) Q =
    Xm 88 [.ref 36] (SH L, mi, ml, MR) d (fun v μ' => X 64 43 [.ref 35, .ref r1, .int x2, .int x3, .int y, xmk, xmk] (v.toList ++ []) μ' (d + 1) Q) := by
  refine (R_pure0 (ins := .istore 4) (len := 2) (loc' := [.ref 35, .ref r1, .int x2, .int x3, .int y, xmk, xmk]) (st' := []) (by decide +kernel) (fun _ => rfl)).trans ?_
  refine (R_pure0 (ins := .aload_n 0) (len := 1) (loc' := [.ref 35, .ref r1, .int x2, .int x3, .int y, xmk, xmk]) (st' := [.ref 35]) (by decide +kernel) (fun _ => rfl)).trans ?_
  refine (R_gr (i := 16) (ci := 5) (k := 0) (n := 1) (b := 36) (by decide +kernel) (by decide +kernel) (by decide) rfl (SH_ref (by decide +kernel))).trans ?_
  refine (R_virt (i := 24) (f := 88) (kd := 0) (na := 0) (ml := 1) (ci := 8) (n := 2) (b := 36) (As := []) (rest := []) (by decide +kernel) (by decide +kernel) (by decide) (by decide +kernel) rfl (by decide +kernel) rfl rfl (by decide +kernel) (Nat.le_of_ble_eq_true rfl)).trans ?_
  rfl
theorem s64_109 {L : Nat} {mi : Nat → Nat → Int32} {ml : Nat → Nat → Int64} {d : Nat} {Q : Option Value → xM → Prop} {x2 x3 y : Int32} {r1 : Nat} {n_r1 : Nat} (hS_r1 : isStrip L r1 n_r1) : X 64 109 [.ref 35, .ref r1, .int x2, .int x3, xmk, xmk, xmk] [.int y] (SH L, mi, ml, MR) (d + 1) Q =
    if ((0 : Int32) < y) then (Xm 88 [.ref 36] (SH L, mi, ml, MR) d (fun v μ' => X 64 119 [.ref 35, .ref r1, .int x2, .int x3, xmk, xmk, xmk] (v.toList ++ []) μ' (d + 1) Q)) else (Q (some (.int x2)) (SH L, mi, ml, MR)) := by
  refine (R_if_le (off := 19) (t := 128) (by decide +kernel) (by decide +kernel)).trans (ite_congr rfl (fun c0 => ?_) (fun c0 => ?_))
  · refine (R_pure0 (ins := .aload_n 0) (len := 1) (loc' := [.ref 35, .ref r1, .int x2, .int x3, xmk, xmk, xmk]) (st' := [.ref 35]) (by decide +kernel) (fun _ => rfl)).trans ?_
    refine (R_gr (i := 16) (ci := 5) (k := 0) (n := 1) (b := 36) (by decide +kernel) (by decide +kernel) (by decide) rfl (SH_ref (by decide +kernel))).trans ?_
    refine (R_virt (i := 24) (f := 88) (kd := 0) (na := 0) (ml := 1) (ci := 8) (n := 2) (b := 36) (As := []) (rest := []) (by decide +kernel) (by decide +kernel) (by decide) (by decide +kernel) rfl (by decide +kernel) rfl rfl (by decide +kernel) (Nat.le_of_ble_eq_true rfl)).trans ?_
    rfl
  · refine (R_iconst (n := 0) (v := 0) (by decide +kernel) (by decide +kernel)).trans ?_
    refine (R_pure0 (ins := .istore_n 3) (len := 1) (loc' := [.ref 35, .ref r1, .int x2, .int 0, xmk, xmk, xmk]) (st' := []) (by decide +kernel) (fun _ => rfl)).trans ?_
    refine (R_pure0 (ins := .iload_n 3) (len := 1) (loc' := [.ref 35, .ref r1, .int x2, .int 0, xmk, xmk, xmk]) (st' := [.int 0]) (by decide +kernel) (fun _ => rfl)).trans ?_
    refine (R_if_eq (off := 8) (t := 139) (by decide +kernel) (by decide +kernel)).trans ((if_pos (by decide)).trans ?_)
    refine (R_pure0 (ins := .iload_n 2) (len := 1) (loc' := [.ref 35, .ref r1, .int x2, .int 0, xmk, xmk, xmk]) (st' := [.int x2]) (by decide +kernel) (fun _ => rfl)).trans ?_
    exact R_ireturn (by decide +kernel) (by decide +kernel)
theorem s64_43 {L : Nat} {mi : Nat → Nat → Int32} {ml : Nat → Nat → Int64} {d : Nat} {Q : Option Value → xM → Prop} {x2 x3 x4 y : Int32} {r1 : Nat} {n_r1 : Nat} (hS_r1 : isStrip L r1 n_r1) : X 64 43 [.ref 35, .ref r1, .int x2, .int x3, .int x4, xmk, xmk] [.int y] (SH L, mi, ml, MR) (d + 1) Q =
    if ((y - y / 4 * 4) = 0) then (if (x4 = 32) then (X 64 24 [.ref 35, .ref r1, .int x2, .int (x3 + 1), .int x4, .int 1, xmk] [] (SH L, mi, ml, MR) (d + 1) Q) else (Xm 65 [.ref 35, .int x4] (SH L, mi, ml, MR) d (fun v μ' => X 64 76 [.ref 35, .ref r1, .int x2, .int x3, .int x4, .int 1, xmk] (v.toList ++ []) μ' (d + 1) Q))) else (Xm 65 [.ref 35, .int x4] (SH L, mi, ml, MR) d (fun v μ' => X 64 76 [.ref 35, .ref r1, .int x2, .int x3, .int x4, .int 0, xmk] (v.toList ++ []) μ' (d + 1) Q)) := by
  refine (R_iconst (n := 4) (v := 4) (by decide +kernel) (by decide +kernel)).trans ?_
  refine (R_irem (x := y) (y := 4) (by decide +kernel) (by decide)).trans ?_
  refine (R_if_ne (off := 7) (t := 52) (by decide +kernel) (by decide +kernel)).trans (ite_congr rfl (fun c0 => ?_) (fun c0 => ?_))
  · refine (R_iconst (n := 1) (v := 1) (by decide +kernel) (by decide +kernel)).trans ?_
    refine (R_goto (off := 4) (t := 53) (by decide +kernel) (by decide +kernel)).trans ?_
    refine (R_pure0 (ins := .istore 5) (len := 2) (loc' := [.ref 35, .ref r1, .int x2, .int x3, .int x4, .int 1, xmk]) (st' := []) (by decide +kernel) (fun _ => rfl)).trans ?_
    refine (R_pure0 (ins := .iload 5) (len := 2) (loc' := [.ref 35, .ref r1, .int x2, .int x3, .int x4, .int 1, xmk]) (st' := [.int 1]) (by decide +kernel) (fun _ => rfl)).trans ?_
    refine (R_if_eq (off := 13) (t := 70) (by decide +kernel) (by decide +kernel)).trans ((if_neg (by decide)).trans ?_)
    refine (R_pure0 (ins := .iload 4) (len := 2) (loc' := [.ref 35, .ref r1, .int x2, .int x3, .int x4, .int 1, xmk]) (st' := [.int x4]) (by decide +kernel) (fun _ => rfl)).trans ?_
    refine (R_bipush (n := 32) (v := 32) (by decide +kernel) (by decide +kernel)).trans ?_
    refine (R_icmp_ne (off := 6) (t := 70) (by decide +kernel) (by decide +kernel)).trans (ite_congr rfl (fun c1 => ?_) (fun c1 => ?_))
    · refine (R_goto (off := 29) (t := 96) (by decide +kernel) (by decide +kernel)).trans ?_
      refine (R_iinc (k := 3) (n := 1) (x := x3) (v := (x3 + 1)) (loc' := [.ref 35, .ref r1, .int x2, .int (x3 + 1), .int x4, .int 1, xmk]) (by decide +kernel) rfl rfl rfl).trans ?_
      refine (R_goto (off := (-75)) (t := 24) (by decide +kernel) (by decide +kernel)).trans ?_
      rfl
    · refine (R_pure0 (ins := .aload_n 0) (len := 1) (loc' := [.ref 35, .ref r1, .int x2, .int x3, .int x4, .int 1, xmk]) (st' := [.ref 35]) (by decide +kernel) (fun _ => rfl)).trans ?_
      refine (R_pure0 (ins := .iload 4) (len := 2) (loc' := [.ref 35, .ref r1, .int x2, .int x3, .int x4, .int 1, xmk]) (st' := [.int x4, .ref 35]) (by decide +kernel) (fun _ => rfl)).trans ?_
      refine (R_virt (i := 32) (f := 65) (kd := 0) (na := 1) (ml := 5) (ci := 5) (n := 1) (b := 35) (As := [.int x4]) (rest := []) (by decide +kernel) (by decide +kernel) (by decide) (by decide +kernel) rfl (by decide +kernel) rfl rfl (by decide +kernel) (Nat.le_of_ble_eq_true rfl)).trans ?_
      rfl
  · refine (R_iconst (n := 0) (v := 0) (by decide +kernel) (by decide +kernel)).trans ?_
    refine (R_pure0 (ins := .istore 5) (len := 2) (loc' := [.ref 35, .ref r1, .int x2, .int x3, .int x4, .int 0, xmk]) (st' := []) (by decide +kernel) (fun _ => rfl)).trans ?_
    refine (R_pure0 (ins := .iload 5) (len := 2) (loc' := [.ref 35, .ref r1, .int x2, .int x3, .int x4, .int 0, xmk]) (st' := [.int 0]) (by decide +kernel) (fun _ => rfl)).trans ?_
    refine (R_if_eq (off := 13) (t := 70) (by decide +kernel) (by decide +kernel)).trans ((if_pos (by decide)).trans ?_)
    refine (R_pure0 (ins := .aload_n 0) (len := 1) (loc' := [.ref 35, .ref r1, .int x2, .int x3, .int x4, .int 0, xmk]) (st' := [.ref 35]) (by decide +kernel) (fun _ => rfl)).trans ?_
    refine (R_pure0 (ins := .iload 4) (len := 2) (loc' := [.ref 35, .ref r1, .int x2, .int x3, .int x4, .int 0, xmk]) (st' := [.int x4, .ref 35]) (by decide +kernel) (fun _ => rfl)).trans ?_
    refine (R_virt (i := 32) (f := 65) (kd := 0) (na := 1) (ml := 5) (ci := 5) (n := 1) (b := 35) (As := [.int x4]) (rest := []) (by decide +kernel) (by decide +kernel) (by decide) (by decide +kernel) rfl (by decide +kernel) rfl rfl (by decide +kernel) (Nat.le_of_ble_eq_true rfl)).trans ?_
    rfl
theorem s64_119 {L : Nat} {mi : Nat → Nat → Int32} {ml : Nat → Nat → Int64} {d : Nat} {Q : Option Value → xM → Prop} {x2 x3 y : Int32} {r1 : Nat} {n_r1 : Nat} (hS_r1 : isStrip L r1 n_r1) : X 64 119 [.ref 35, .ref r1, .int x2, .int x3, xmk, xmk, xmk] [.int y] (SH L, mi, ml, MR) d Q =
    if ((y - y / 4 * 4) = 0) then (Q (some (.int (-9))) (SH L, mi, ml, MR)) else (Q (some (.int x2)) (SH L, mi, ml, MR)) := by
  refine (R_iconst (n := 4) (v := 4) (by decide +kernel) (by decide +kernel)).trans ?_
  refine (R_irem (x := y) (y := 4) (by decide +kernel) (by decide)).trans ?_
  refine (R_if_ne (off := 7) (t := 128) (by decide +kernel) (by decide +kernel)).trans (ite_congr rfl (fun c0 => ?_) (fun c0 => ?_))
  · refine (R_iconst (n := 1) (v := 1) (by decide +kernel) (by decide +kernel)).trans ?_
    refine (R_goto (off := 4) (t := 129) (by decide +kernel) (by decide +kernel)).trans ?_
    refine (R_pure0 (ins := .istore_n 3) (len := 1) (loc' := [.ref 35, .ref r1, .int x2, .int 1, xmk, xmk, xmk]) (st' := []) (by decide +kernel) (fun _ => rfl)).trans ?_
    refine (R_pure0 (ins := .iload_n 3) (len := 1) (loc' := [.ref 35, .ref r1, .int x2, .int 1, xmk, xmk, xmk]) (st' := [.int 1]) (by decide +kernel) (fun _ => rfl)).trans ?_
    refine (R_if_eq (off := 8) (t := 139) (by decide +kernel) (by decide +kernel)).trans ((if_neg (by decide)).trans ?_)
    refine (R_bipush (n := (-9)) (v := (-9)) (by decide +kernel) (by decide +kernel)).trans ?_
    refine (R_goto (off := 4) (t := 140) (by decide +kernel) (by decide +kernel)).trans ?_
    exact R_ireturn (by decide +kernel) (by decide +kernel)
  · refine (R_iconst (n := 0) (v := 0) (by decide +kernel) (by decide +kernel)).trans ?_
    refine (R_pure0 (ins := .istore_n 3) (len := 1) (loc' := [.ref 35, .ref r1, .int x2, .int 0, xmk, xmk, xmk]) (st' := []) (by decide +kernel) (fun _ => rfl)).trans ?_
    refine (R_pure0 (ins := .iload_n 3) (len := 1) (loc' := [.ref 35, .ref r1, .int x2, .int 0, xmk, xmk, xmk]) (st' := [.int 0]) (by decide +kernel) (fun _ => rfl)).trans ?_
    refine (R_if_eq (off := 8) (t := 139) (by decide +kernel) (by decide +kernel)).trans ((if_pos (by decide)).trans ?_)
    refine (R_pure0 (ins := .iload_n 2) (len := 1) (loc' := [.ref 35, .ref r1, .int x2, .int 0, xmk, xmk, xmk]) (st' := [.int x2]) (by decide +kernel) (fun _ => rfl)).trans ?_
    exact R_ireturn (by decide +kernel) (by decide +kernel)
theorem s64_24v3 {L : Nat} {mi : Nat → Nat → Int32} {ml : Nat → Nat → Int64} {d : Nat} {Q : Option Value → xM → Prop} {x2 x3 x4 x5 : Int32} {r1 : Nat} {n_r1 : Nat} (hS_r1 : isStrip L r1 n_r1) : X 64 24 [.ref 35, .ref r1, .int x2, .int x3, .int x4, .int x5, xmk] [] (SH L, mi, ml, MR) (d + 1) Q =
    if (x3 < x2) then (Xm 90 [.ref r1, .int x3] (SH L, mi, ml, MR) d (fun v μ' => X 64 34 [.ref 35, .ref r1, .int x2, .int x3, .int x4, .int x5, xmk] (v.toList ++ []) μ' (d + 1) Q)) else (Xm 88 [.ref 36] (SH L, mi, ml, MR) d (fun v μ' => X 64 109 [.ref 35, .ref r1, .int x2, .int x3, .int x4, .int x5, xmk] (v.toList ++ []) μ' (d + 1) Q)) := by
  refine (R_pure0 (ins := .iload_n 3) (len := 1) (loc' := [.ref 35, .ref r1, .int x2, .int x3, .int x4, .int x5, xmk]) (st' := [.int x3]) (by decide +kernel) (fun _ => rfl)).trans ?_
  refine (R_pure0 (ins := .iload_n 2) (len := 1) (loc' := [.ref 35, .ref r1, .int x2, .int x3, .int x4, .int x5, xmk]) (st' := [.int x2, .int x3]) (by decide +kernel) (fun _ => rfl)).trans ?_
  refine (R_icmp_ge (off := 76) (t := 102) (by decide +kernel) (by decide +kernel)).trans (ite_congr rfl (fun c0 => ?_) (fun c0 => ?_))
  · refine (R_pure0 (ins := .aload_n 1) (len := 1) (loc' := [.ref 35, .ref r1, .int x2, .int x3, .int x4, .int x5, xmk]) (st' := [.ref r1]) (by decide +kernel) (fun _ => rfl)).trans ?_
    refine (R_pure0 (ins := .iload_n 3) (len := 1) (loc' := [.ref 35, .ref r1, .int x2, .int x3, .int x4, .int x5, xmk]) (st' := [.int x3, .ref r1]) (by decide +kernel) (fun _ => rfl)).trans ?_
    refine (R_virt (i := 28) (f := 90) (kd := 0) (na := 1) (ml := 2) (ci := 8) (n := 2) (b := r1) (As := [.int x3]) (rest := []) (by decide +kernel) (by decide +kernel) (by decide) (by decide +kernel) rfl (by decide +kernel) hS_r1.1 rfl (by decide +kernel) (Nat.le_of_ble_eq_true rfl)).trans ?_
    rfl
  · refine (R_pure0 (ins := .aload_n 0) (len := 1) (loc' := [.ref 35, .ref r1, .int x2, .int x3, .int x4, .int x5, xmk]) (st' := [.ref 35]) (by decide +kernel) (fun _ => rfl)).trans ?_
    refine (R_gr (i := 16) (ci := 5) (k := 0) (n := 1) (b := 36) (by decide +kernel) (by decide +kernel) (by decide) rfl (SH_ref (by decide +kernel))).trans ?_
    refine (R_virt (i := 24) (f := 88) (kd := 0) (na := 0) (ml := 1) (ci := 8) (n := 2) (b := 36) (As := []) (rest := []) (by decide +kernel) (by decide +kernel) (by decide) (by decide +kernel) rfl (by decide +kernel) rfl rfl (by decide +kernel) (Nat.le_of_ble_eq_true rfl)).trans ?_
    rfl
theorem s64_76 {L : Nat} {mi : Nat → Nat → Int32} {ml : Nat → Nat → Int64} {d : Nat} {Q : Option Value → xM → Prop} {x2 x3 x4 x5 y : Int32} {r1 : Nat} {n_r1 : Nat} (hS_r1 : isStrip L r1 n_r1) : X 64 76 [.ref 35, .ref r1, .int x2, .int x3, .int x4, .int x5, xmk] [.int y] (SH L, mi, ml, MR) (d + 1) Q =
    if (y = (-9)) then (Q (some (.int x3)) (SH L, mi, ml, MR)) else (Xm 93 [.ref 36, .int y] (SH L, mi, ml, MR) d (fun v μ' => X 64 96 [.ref 35, .ref r1, .int x2, .int x3, .int x4, .int x5, .int y] (v.toList ++ []) μ' (d + 1) Q)) := by
  refine (R_pure0 (ins := .istore 6) (len := 2) (loc' := [.ref 35, .ref r1, .int x2, .int x3, .int x4, .int x5, .int y]) (st' := []) (by decide +kernel) (fun _ => rfl)).trans ?_
  refine (R_pure0 (ins := .iload 6) (len := 2) (loc' := [.ref 35, .ref r1, .int x2, .int x3, .int x4, .int x5, .int y]) (st' := [.int y]) (by decide +kernel) (fun _ => rfl)).trans ?_
  refine (R_bipush (n := (-9)) (v := (-9)) (by decide +kernel) (by decide +kernel)).trans ?_
  refine (R_icmp_ne (off := 5) (t := 87) (by decide +kernel) (by decide +kernel)).trans (ite_congr rfl (fun c0 => ?_) (fun c0 => ?_))
  · refine (R_pure0 (ins := .iload_n 3) (len := 1) (loc' := [.ref 35, .ref r1, .int x2, .int x3, .int x4, .int x5, .int y]) (st' := [.int x3]) (by decide +kernel) (fun _ => rfl)).trans ?_
    exact R_ireturn (by decide +kernel) (by decide +kernel)
  · refine (R_pure0 (ins := .aload_n 0) (len := 1) (loc' := [.ref 35, .ref r1, .int x2, .int x3, .int x4, .int x5, .int y]) (st' := [.ref 35]) (by decide +kernel) (fun _ => rfl)).trans ?_
    refine (R_gr (i := 16) (ci := 5) (k := 0) (n := 1) (b := 36) (by decide +kernel) (by decide +kernel) (by decide) rfl (SH_ref (by decide +kernel))).trans ?_
    refine (R_pure0 (ins := .iload 6) (len := 2) (loc' := [.ref 35, .ref r1, .int x2, .int x3, .int x4, .int x5, .int y]) (st' := [.int y, .ref 36]) (by decide +kernel) (fun _ => rfl)).trans ?_
    refine (R_virt (i := 35) (f := 93) (kd := 0) (na := 1) (ml := 2) (ci := 8) (n := 2) (b := 36) (As := [.int y]) (rest := []) (by decide +kernel) (by decide +kernel) (by decide) (by decide +kernel) rfl (by decide +kernel) rfl rfl (by decide +kernel) (Nat.le_of_ble_eq_true rfl)).trans ?_
    rfl
theorem s64_34v2 {L : Nat} {mi : Nat → Nat → Int32} {ml : Nat → Nat → Int64} {d : Nat} {Q : Option Value → xM → Prop} {x2 x3 x4 x5 y : Int32} {r1 : Nat} {n_r1 : Nat} (hS_r1 : isStrip L r1 n_r1) : X 64 34 [.ref 35, .ref r1, .int x2, .int x3, .int x4, .int x5, xmk] [.int y] (SH L, mi, ml, MR) (d + 1) Q =
    Xm 88 [.ref 36] (SH L, mi, ml, MR) d (fun v μ' => X 64 43 [.ref 35, .ref r1, .int x2, .int x3, .int y, .int x5, xmk] (v.toList ++ []) μ' (d + 1) Q) := by
  refine (R_pure0 (ins := .istore 4) (len := 2) (loc' := [.ref 35, .ref r1, .int x2, .int x3, .int y, .int x5, xmk]) (st' := []) (by decide +kernel) (fun _ => rfl)).trans ?_
  refine (R_pure0 (ins := .aload_n 0) (len := 1) (loc' := [.ref 35, .ref r1, .int x2, .int x3, .int y, .int x5, xmk]) (st' := [.ref 35]) (by decide +kernel) (fun _ => rfl)).trans ?_
  refine (R_gr (i := 16) (ci := 5) (k := 0) (n := 1) (b := 36) (by decide +kernel) (by decide +kernel) (by decide) rfl (SH_ref (by decide +kernel))).trans ?_
  refine (R_virt (i := 24) (f := 88) (kd := 0) (na := 0) (ml := 1) (ci := 8) (n := 2) (b := 36) (As := []) (rest := []) (by decide +kernel) (by decide +kernel) (by decide) (by decide +kernel) rfl (by decide +kernel) rfl rfl (by decide +kernel) (Nat.le_of_ble_eq_true rfl)).trans ?_
  rfl
theorem s64_109v2 {L : Nat} {mi : Nat → Nat → Int32} {ml : Nat → Nat → Int64} {d : Nat} {Q : Option Value → xM → Prop} {x2 x3 x4 x5 y : Int32} {r1 : Nat} {n_r1 : Nat} (hS_r1 : isStrip L r1 n_r1) : X 64 109 [.ref 35, .ref r1, .int x2, .int x3, .int x4, .int x5, xmk] [.int y] (SH L, mi, ml, MR) (d + 1) Q =
    if ((0 : Int32) < y) then (Xm 88 [.ref 36] (SH L, mi, ml, MR) d (fun v μ' => X 64 119 [.ref 35, .ref r1, .int x2, .int x3, .int x4, .int x5, xmk] (v.toList ++ []) μ' (d + 1) Q)) else (Q (some (.int x2)) (SH L, mi, ml, MR)) := by
  refine (R_if_le (off := 19) (t := 128) (by decide +kernel) (by decide +kernel)).trans (ite_congr rfl (fun c0 => ?_) (fun c0 => ?_))
  · refine (R_pure0 (ins := .aload_n 0) (len := 1) (loc' := [.ref 35, .ref r1, .int x2, .int x3, .int x4, .int x5, xmk]) (st' := [.ref 35]) (by decide +kernel) (fun _ => rfl)).trans ?_
    refine (R_gr (i := 16) (ci := 5) (k := 0) (n := 1) (b := 36) (by decide +kernel) (by decide +kernel) (by decide) rfl (SH_ref (by decide +kernel))).trans ?_
    refine (R_virt (i := 24) (f := 88) (kd := 0) (na := 0) (ml := 1) (ci := 8) (n := 2) (b := 36) (As := []) (rest := []) (by decide +kernel) (by decide +kernel) (by decide) (by decide +kernel) rfl (by decide +kernel) rfl rfl (by decide +kernel) (Nat.le_of_ble_eq_true rfl)).trans ?_
    rfl
  · refine (R_iconst (n := 0) (v := 0) (by decide +kernel) (by decide +kernel)).trans ?_
    refine (R_pure0 (ins := .istore_n 3) (len := 1) (loc' := [.ref 35, .ref r1, .int x2, .int 0, .int x4, .int x5, xmk]) (st' := []) (by decide +kernel) (fun _ => rfl)).trans ?_
    refine (R_pure0 (ins := .iload_n 3) (len := 1) (loc' := [.ref 35, .ref r1, .int x2, .int 0, .int x4, .int x5, xmk]) (st' := [.int 0]) (by decide +kernel) (fun _ => rfl)).trans ?_
    refine (R_if_eq (off := 8) (t := 139) (by decide +kernel) (by decide +kernel)).trans ((if_pos (by decide)).trans ?_)
    refine (R_pure0 (ins := .iload_n 2) (len := 1) (loc' := [.ref 35, .ref r1, .int x2, .int 0, .int x4, .int x5, xmk]) (st' := [.int x2]) (by decide +kernel) (fun _ => rfl)).trans ?_
    exact R_ireturn (by decide +kernel) (by decide +kernel)
theorem s64_96 {L : Nat} {mi : Nat → Nat → Int32} {ml : Nat → Nat → Int64} {d : Nat} {Q : Option Value → xM → Prop} {x2 x3 x4 x5 x6 : Int32} {r1 : Nat} {n_r1 : Nat} (hS_r1 : isStrip L r1 n_r1) : X 64 96 [.ref 35, .ref r1, .int x2, .int x3, .int x4, .int x5, .int x6] [] (SH L, mi, ml, MR) d Q =
    X 64 24 [.ref 35, .ref r1, .int x2, .int (x3 + 1), .int x4, .int x5, .int x6] [] (SH L, mi, ml, MR) d Q := by
  refine (R_iinc (k := 3) (n := 1) (x := x3) (v := (x3 + 1)) (loc' := [.ref 35, .ref r1, .int x2, .int (x3 + 1), .int x4, .int x5, .int x6]) (by decide +kernel) rfl rfl rfl).trans ?_
  refine (R_goto (off := (-75)) (t := 24) (by decide +kernel) (by decide +kernel)).trans ?_
  rfl
theorem s64_43v2 {L : Nat} {mi : Nat → Nat → Int32} {ml : Nat → Nat → Int64} {d : Nat} {Q : Option Value → xM → Prop} {x2 x3 x4 x5 y : Int32} {r1 : Nat} {n_r1 : Nat} (hS_r1 : isStrip L r1 n_r1) : X 64 43 [.ref 35, .ref r1, .int x2, .int x3, .int x4, .int x5, xmk] [.int y] (SH L, mi, ml, MR) (d + 1) Q =
    if ((y - y / 4 * 4) = 0) then (if (x4 = 32) then (X 64 24 [.ref 35, .ref r1, .int x2, .int (x3 + 1), .int x4, .int 1, xmk] [] (SH L, mi, ml, MR) (d + 1) Q) else (Xm 65 [.ref 35, .int x4] (SH L, mi, ml, MR) d (fun v μ' => X 64 76 [.ref 35, .ref r1, .int x2, .int x3, .int x4, .int 1, xmk] (v.toList ++ []) μ' (d + 1) Q))) else (Xm 65 [.ref 35, .int x4] (SH L, mi, ml, MR) d (fun v μ' => X 64 76 [.ref 35, .ref r1, .int x2, .int x3, .int x4, .int 0, xmk] (v.toList ++ []) μ' (d + 1) Q)) := by
  refine (R_iconst (n := 4) (v := 4) (by decide +kernel) (by decide +kernel)).trans ?_
  refine (R_irem (x := y) (y := 4) (by decide +kernel) (by decide)).trans ?_
  refine (R_if_ne (off := 7) (t := 52) (by decide +kernel) (by decide +kernel)).trans (ite_congr rfl (fun c0 => ?_) (fun c0 => ?_))
  · refine (R_iconst (n := 1) (v := 1) (by decide +kernel) (by decide +kernel)).trans ?_
    refine (R_goto (off := 4) (t := 53) (by decide +kernel) (by decide +kernel)).trans ?_
    refine (R_pure0 (ins := .istore 5) (len := 2) (loc' := [.ref 35, .ref r1, .int x2, .int x3, .int x4, .int 1, xmk]) (st' := []) (by decide +kernel) (fun _ => rfl)).trans ?_
    refine (R_pure0 (ins := .iload 5) (len := 2) (loc' := [.ref 35, .ref r1, .int x2, .int x3, .int x4, .int 1, xmk]) (st' := [.int 1]) (by decide +kernel) (fun _ => rfl)).trans ?_
    refine (R_if_eq (off := 13) (t := 70) (by decide +kernel) (by decide +kernel)).trans ((if_neg (by decide)).trans ?_)
    refine (R_pure0 (ins := .iload 4) (len := 2) (loc' := [.ref 35, .ref r1, .int x2, .int x3, .int x4, .int 1, xmk]) (st' := [.int x4]) (by decide +kernel) (fun _ => rfl)).trans ?_
    refine (R_bipush (n := 32) (v := 32) (by decide +kernel) (by decide +kernel)).trans ?_
    refine (R_icmp_ne (off := 6) (t := 70) (by decide +kernel) (by decide +kernel)).trans (ite_congr rfl (fun c1 => ?_) (fun c1 => ?_))
    · refine (R_goto (off := 29) (t := 96) (by decide +kernel) (by decide +kernel)).trans ?_
      refine (R_iinc (k := 3) (n := 1) (x := x3) (v := (x3 + 1)) (loc' := [.ref 35, .ref r1, .int x2, .int (x3 + 1), .int x4, .int 1, xmk]) (by decide +kernel) rfl rfl rfl).trans ?_
      refine (R_goto (off := (-75)) (t := 24) (by decide +kernel) (by decide +kernel)).trans ?_
      rfl
    · refine (R_pure0 (ins := .aload_n 0) (len := 1) (loc' := [.ref 35, .ref r1, .int x2, .int x3, .int x4, .int 1, xmk]) (st' := [.ref 35]) (by decide +kernel) (fun _ => rfl)).trans ?_
      refine (R_pure0 (ins := .iload 4) (len := 2) (loc' := [.ref 35, .ref r1, .int x2, .int x3, .int x4, .int 1, xmk]) (st' := [.int x4, .ref 35]) (by decide +kernel) (fun _ => rfl)).trans ?_
      refine (R_virt (i := 32) (f := 65) (kd := 0) (na := 1) (ml := 5) (ci := 5) (n := 1) (b := 35) (As := [.int x4]) (rest := []) (by decide +kernel) (by decide +kernel) (by decide) (by decide +kernel) rfl (by decide +kernel) rfl rfl (by decide +kernel) (Nat.le_of_ble_eq_true rfl)).trans ?_
      rfl
  · refine (R_iconst (n := 0) (v := 0) (by decide +kernel) (by decide +kernel)).trans ?_
    refine (R_pure0 (ins := .istore 5) (len := 2) (loc' := [.ref 35, .ref r1, .int x2, .int x3, .int x4, .int 0, xmk]) (st' := []) (by decide +kernel) (fun _ => rfl)).trans ?_
    refine (R_pure0 (ins := .iload 5) (len := 2) (loc' := [.ref 35, .ref r1, .int x2, .int x3, .int x4, .int 0, xmk]) (st' := [.int 0]) (by decide +kernel) (fun _ => rfl)).trans ?_
    refine (R_if_eq (off := 13) (t := 70) (by decide +kernel) (by decide +kernel)).trans ((if_pos (by decide)).trans ?_)
    refine (R_pure0 (ins := .aload_n 0) (len := 1) (loc' := [.ref 35, .ref r1, .int x2, .int x3, .int x4, .int 0, xmk]) (st' := [.ref 35]) (by decide +kernel) (fun _ => rfl)).trans ?_
    refine (R_pure0 (ins := .iload 4) (len := 2) (loc' := [.ref 35, .ref r1, .int x2, .int x3, .int x4, .int 0, xmk]) (st' := [.int x4, .ref 35]) (by decide +kernel) (fun _ => rfl)).trans ?_
    refine (R_virt (i := 32) (f := 65) (kd := 0) (na := 1) (ml := 5) (ci := 5) (n := 1) (b := 35) (As := [.int x4]) (rest := []) (by decide +kernel) (by decide +kernel) (by decide) (by decide +kernel) rfl (by decide +kernel) rfl rfl (by decide +kernel) (Nat.le_of_ble_eq_true rfl)).trans ?_
    rfl
theorem s64_119v2 {L : Nat} {mi : Nat → Nat → Int32} {ml : Nat → Nat → Int64} {d : Nat} {Q : Option Value → xM → Prop} {x2 x3 x4 x5 y : Int32} {r1 : Nat} {n_r1 : Nat} (hS_r1 : isStrip L r1 n_r1) : X 64 119 [.ref 35, .ref r1, .int x2, .int x3, .int x4, .int x5, xmk] [.int y] (SH L, mi, ml, MR) d Q =
    if ((y - y / 4 * 4) = 0) then (Q (some (.int (-9))) (SH L, mi, ml, MR)) else (Q (some (.int x2)) (SH L, mi, ml, MR)) := by
  refine (R_iconst (n := 4) (v := 4) (by decide +kernel) (by decide +kernel)).trans ?_
  refine (R_irem (x := y) (y := 4) (by decide +kernel) (by decide)).trans ?_
  refine (R_if_ne (off := 7) (t := 128) (by decide +kernel) (by decide +kernel)).trans (ite_congr rfl (fun c0 => ?_) (fun c0 => ?_))
  · refine (R_iconst (n := 1) (v := 1) (by decide +kernel) (by decide +kernel)).trans ?_
    refine (R_goto (off := 4) (t := 129) (by decide +kernel) (by decide +kernel)).trans ?_
    refine (R_pure0 (ins := .istore_n 3) (len := 1) (loc' := [.ref 35, .ref r1, .int x2, .int 1, .int x4, .int x5, xmk]) (st' := []) (by decide +kernel) (fun _ => rfl)).trans ?_
    refine (R_pure0 (ins := .iload_n 3) (len := 1) (loc' := [.ref 35, .ref r1, .int x2, .int 1, .int x4, .int x5, xmk]) (st' := [.int 1]) (by decide +kernel) (fun _ => rfl)).trans ?_
    refine (R_if_eq (off := 8) (t := 139) (by decide +kernel) (by decide +kernel)).trans ((if_neg (by decide)).trans ?_)
    refine (R_bipush (n := (-9)) (v := (-9)) (by decide +kernel) (by decide +kernel)).trans ?_
    refine (R_goto (off := 4) (t := 140) (by decide +kernel) (by decide +kernel)).trans ?_
    exact R_ireturn (by decide +kernel) (by decide +kernel)
  · refine (R_iconst (n := 0) (v := 0) (by decide +kernel) (by decide +kernel)).trans ?_
    refine (R_pure0 (ins := .istore_n 3) (len := 1) (loc' := [.ref 35, .ref r1, .int x2, .int 0, .int x4, .int x5, xmk]) (st' := []) (by decide +kernel) (fun _ => rfl)).trans ?_
    refine (R_pure0 (ins := .iload_n 3) (len := 1) (loc' := [.ref 35, .ref r1, .int x2, .int 0, .int x4, .int x5, xmk]) (st' := [.int 0]) (by decide +kernel) (fun _ => rfl)).trans ?_
    refine (R_if_eq (off := 8) (t := 139) (by decide +kernel) (by decide +kernel)).trans ((if_pos (by decide)).trans ?_)
    refine (R_pure0 (ins := .iload_n 2) (len := 1) (loc' := [.ref 35, .ref r1, .int x2, .int 0, .int x4, .int x5, xmk]) (st' := [.int x2]) (by decide +kernel) (fun _ => rfl)).trans ?_
    exact R_ireturn (by decide +kernel) (by decide +kernel)
theorem s64_24v4 {L : Nat} {mi : Nat → Nat → Int32} {ml : Nat → Nat → Int64} {d : Nat} {Q : Option Value → xM → Prop} {x2 x3 x4 x5 x6 : Int32} {r1 : Nat} {n_r1 : Nat} (hS_r1 : isStrip L r1 n_r1) : X 64 24 [.ref 35, .ref r1, .int x2, .int x3, .int x4, .int x5, .int x6] [] (SH L, mi, ml, MR) (d + 1) Q =
    if (x3 < x2) then (Xm 90 [.ref r1, .int x3] (SH L, mi, ml, MR) d (fun v μ' => X 64 34 [.ref 35, .ref r1, .int x2, .int x3, .int x4, .int x5, .int x6] (v.toList ++ []) μ' (d + 1) Q)) else (Xm 88 [.ref 36] (SH L, mi, ml, MR) d (fun v μ' => X 64 109 [.ref 35, .ref r1, .int x2, .int x3, .int x4, .int x5, .int x6] (v.toList ++ []) μ' (d + 1) Q)) := by
  refine (R_pure0 (ins := .iload_n 3) (len := 1) (loc' := [.ref 35, .ref r1, .int x2, .int x3, .int x4, .int x5, .int x6]) (st' := [.int x3]) (by decide +kernel) (fun _ => rfl)).trans ?_
  refine (R_pure0 (ins := .iload_n 2) (len := 1) (loc' := [.ref 35, .ref r1, .int x2, .int x3, .int x4, .int x5, .int x6]) (st' := [.int x2, .int x3]) (by decide +kernel) (fun _ => rfl)).trans ?_
  refine (R_icmp_ge (off := 76) (t := 102) (by decide +kernel) (by decide +kernel)).trans (ite_congr rfl (fun c0 => ?_) (fun c0 => ?_))
  · refine (R_pure0 (ins := .aload_n 1) (len := 1) (loc' := [.ref 35, .ref r1, .int x2, .int x3, .int x4, .int x5, .int x6]) (st' := [.ref r1]) (by decide +kernel) (fun _ => rfl)).trans ?_
    refine (R_pure0 (ins := .iload_n 3) (len := 1) (loc' := [.ref 35, .ref r1, .int x2, .int x3, .int x4, .int x5, .int x6]) (st' := [.int x3, .ref r1]) (by decide +kernel) (fun _ => rfl)).trans ?_
    refine (R_virt (i := 28) (f := 90) (kd := 0) (na := 1) (ml := 2) (ci := 8) (n := 2) (b := r1) (As := [.int x3]) (rest := []) (by decide +kernel) (by decide +kernel) (by decide) (by decide +kernel) rfl (by decide +kernel) hS_r1.1 rfl (by decide +kernel) (Nat.le_of_ble_eq_true rfl)).trans ?_
    rfl
  · refine (R_pure0 (ins := .aload_n 0) (len := 1) (loc' := [.ref 35, .ref r1, .int x2, .int x3, .int x4, .int x5, .int x6]) (st' := [.ref 35]) (by decide +kernel) (fun _ => rfl)).trans ?_
    refine (R_gr (i := 16) (ci := 5) (k := 0) (n := 1) (b := 36) (by decide +kernel) (by decide +kernel) (by decide) rfl (SH_ref (by decide +kernel))).trans ?_
    refine (R_virt (i := 24) (f := 88) (kd := 0) (na := 0) (ml := 1) (ci := 8) (n := 2) (b := 36) (As := []) (rest := []) (by decide +kernel) (by decide +kernel) (by decide) (by decide +kernel) rfl (by decide +kernel) rfl rfl (by decide +kernel) (Nat.le_of_ble_eq_true rfl)).trans ?_
    rfl
theorem s64_34v3 {L : Nat} {mi : Nat → Nat → Int32} {ml : Nat → Nat → Int64} {d : Nat} {Q : Option Value → xM → Prop} {x2 x3 x4 x5 x6 y : Int32} {r1 : Nat} {n_r1 : Nat} (hS_r1 : isStrip L r1 n_r1) : X 64 34 [.ref 35, .ref r1, .int x2, .int x3, .int x4, .int x5, .int x6] [.int y] (SH L, mi, ml, MR) (d + 1) Q =
    Xm 88 [.ref 36] (SH L, mi, ml, MR) d (fun v μ' => X 64 43 [.ref 35, .ref r1, .int x2, .int x3, .int y, .int x5, .int x6] (v.toList ++ []) μ' (d + 1) Q) := by
  refine (R_pure0 (ins := .istore 4) (len := 2) (loc' := [.ref 35, .ref r1, .int x2, .int x3, .int y, .int x5, .int x6]) (st' := []) (by decide +kernel) (fun _ => rfl)).trans ?_
  refine (R_pure0 (ins := .aload_n 0) (len := 1) (loc' := [.ref 35, .ref r1, .int x2, .int x3, .int y, .int x5, .int x6]) (st' := [.ref 35]) (by decide +kernel) (fun _ => rfl)).trans ?_
  refine (R_gr (i := 16) (ci := 5) (k := 0) (n := 1) (b := 36) (by decide +kernel) (by decide +kernel) (by decide) rfl (SH_ref (by decide +kernel))).trans ?_
  refine (R_virt (i := 24) (f := 88) (kd := 0) (na := 0) (ml := 1) (ci := 8) (n := 2) (b := 36) (As := []) (rest := []) (by decide +kernel) (by decide +kernel) (by decide) (by decide +kernel) rfl (by decide +kernel) rfl rfl (by decide +kernel) (Nat.le_of_ble_eq_true rfl)).trans ?_
  rfl
theorem s64_109v3 {L : Nat} {mi : Nat → Nat → Int32} {ml : Nat → Nat → Int64} {d : Nat} {Q : Option Value → xM → Prop} {x2 x3 x4 x5 x6 y : Int32} {r1 : Nat} {n_r1 : Nat} (hS_r1 : isStrip L r1 n_r1) : X 64 109 [.ref 35, .ref r1, .int x2, .int x3, .int x4, .int x5, .int x6] [.int y] (SH L, mi, ml, MR) (d + 1) Q =
    if ((0 : Int32) < y) then (Xm 88 [.ref 36] (SH L, mi, ml, MR) d (fun v μ' => X 64 119 [.ref 35, .ref r1, .int x2, .int x3, .int x4, .int x5, .int x6] (v.toList ++ []) μ' (d + 1) Q)) else (Q (some (.int x2)) (SH L, mi, ml, MR)) := by
  refine (R_if_le (off := 19) (t := 128) (by decide +kernel) (by decide +kernel)).trans (ite_congr rfl (fun c0 => ?_) (fun c0 => ?_))
  · refine (R_pure0 (ins := .aload_n 0) (len := 1) (loc' := [.ref 35, .ref r1, .int x2, .int x3, .int x4, .int x5, .int x6]) (st' := [.ref 35]) (by decide +kernel) (fun _ => rfl)).trans ?_
    refine (R_gr (i := 16) (ci := 5) (k := 0) (n := 1) (b := 36) (by decide +kernel) (by decide +kernel) (by decide) rfl (SH_ref (by decide +kernel))).trans ?_
    refine (R_virt (i := 24) (f := 88) (kd := 0) (na := 0) (ml := 1) (ci := 8) (n := 2) (b := 36) (As := []) (rest := []) (by decide +kernel) (by decide +kernel) (by decide) (by decide +kernel) rfl (by decide +kernel) rfl rfl (by decide +kernel) (Nat.le_of_ble_eq_true rfl)).trans ?_
    rfl
  · refine (R_iconst (n := 0) (v := 0) (by decide +kernel) (by decide +kernel)).trans ?_
    refine (R_pure0 (ins := .istore_n 3) (len := 1) (loc' := [.ref 35, .ref r1, .int x2, .int 0, .int x4, .int x5, .int x6]) (st' := []) (by decide +kernel) (fun _ => rfl)).trans ?_
    refine (R_pure0 (ins := .iload_n 3) (len := 1) (loc' := [.ref 35, .ref r1, .int x2, .int 0, .int x4, .int x5, .int x6]) (st' := [.int 0]) (by decide +kernel) (fun _ => rfl)).trans ?_
    refine (R_if_eq (off := 8) (t := 139) (by decide +kernel) (by decide +kernel)).trans ((if_pos (by decide)).trans ?_)
    refine (R_pure0 (ins := .iload_n 2) (len := 1) (loc' := [.ref 35, .ref r1, .int x2, .int 0, .int x4, .int x5, .int x6]) (st' := [.int x2]) (by decide +kernel) (fun _ => rfl)).trans ?_
    exact R_ireturn (by decide +kernel) (by decide +kernel)
theorem s64_43v3 {L : Nat} {mi : Nat → Nat → Int32} {ml : Nat → Nat → Int64} {d : Nat} {Q : Option Value → xM → Prop} {x2 x3 x4 x5 x6 y : Int32} {r1 : Nat} {n_r1 : Nat} (hS_r1 : isStrip L r1 n_r1) : X 64 43 [.ref 35, .ref r1, .int x2, .int x3, .int x4, .int x5, .int x6] [.int y] (SH L, mi, ml, MR) (d + 1) Q =
    if ((y - y / 4 * 4) = 0) then (if (x4 = 32) then (X 64 24 [.ref 35, .ref r1, .int x2, .int (x3 + 1), .int x4, .int 1, .int x6] [] (SH L, mi, ml, MR) (d + 1) Q) else (Xm 65 [.ref 35, .int x4] (SH L, mi, ml, MR) d (fun v μ' => X 64 76 [.ref 35, .ref r1, .int x2, .int x3, .int x4, .int 1, .int x6] (v.toList ++ []) μ' (d + 1) Q))) else (Xm 65 [.ref 35, .int x4] (SH L, mi, ml, MR) d (fun v μ' => X 64 76 [.ref 35, .ref r1, .int x2, .int x3, .int x4, .int 0, .int x6] (v.toList ++ []) μ' (d + 1) Q)) := by
  refine (R_iconst (n := 4) (v := 4) (by decide +kernel) (by decide +kernel)).trans ?_
  refine (R_irem (x := y) (y := 4) (by decide +kernel) (by decide)).trans ?_
  refine (R_if_ne (off := 7) (t := 52) (by decide +kernel) (by decide +kernel)).trans (ite_congr rfl (fun c0 => ?_) (fun c0 => ?_))
  · refine (R_iconst (n := 1) (v := 1) (by decide +kernel) (by decide +kernel)).trans ?_
    refine (R_goto (off := 4) (t := 53) (by decide +kernel) (by decide +kernel)).trans ?_
    refine (R_pure0 (ins := .istore 5) (len := 2) (loc' := [.ref 35, .ref r1, .int x2, .int x3, .int x4, .int 1, .int x6]) (st' := []) (by decide +kernel) (fun _ => rfl)).trans ?_
    refine (R_pure0 (ins := .iload 5) (len := 2) (loc' := [.ref 35, .ref r1, .int x2, .int x3, .int x4, .int 1, .int x6]) (st' := [.int 1]) (by decide +kernel) (fun _ => rfl)).trans ?_
    refine (R_if_eq (off := 13) (t := 70) (by decide +kernel) (by decide +kernel)).trans ((if_neg (by decide)).trans ?_)
    refine (R_pure0 (ins := .iload 4) (len := 2) (loc' := [.ref 35, .ref r1, .int x2, .int x3, .int x4, .int 1, .int x6]) (st' := [.int x4]) (by decide +kernel) (fun _ => rfl)).trans ?_
    refine (R_bipush (n := 32) (v := 32) (by decide +kernel) (by decide +kernel)).trans ?_
    refine (R_icmp_ne (off := 6) (t := 70) (by decide +kernel) (by decide +kernel)).trans (ite_congr rfl (fun c1 => ?_) (fun c1 => ?_))
    · refine (R_goto (off := 29) (t := 96) (by decide +kernel) (by decide +kernel)).trans ?_
      refine (R_iinc (k := 3) (n := 1) (x := x3) (v := (x3 + 1)) (loc' := [.ref 35, .ref r1, .int x2, .int (x3 + 1), .int x4, .int 1, .int x6]) (by decide +kernel) rfl rfl rfl).trans ?_
      refine (R_goto (off := (-75)) (t := 24) (by decide +kernel) (by decide +kernel)).trans ?_
      rfl
    · refine (R_pure0 (ins := .aload_n 0) (len := 1) (loc' := [.ref 35, .ref r1, .int x2, .int x3, .int x4, .int 1, .int x6]) (st' := [.ref 35]) (by decide +kernel) (fun _ => rfl)).trans ?_
      refine (R_pure0 (ins := .iload 4) (len := 2) (loc' := [.ref 35, .ref r1, .int x2, .int x3, .int x4, .int 1, .int x6]) (st' := [.int x4, .ref 35]) (by decide +kernel) (fun _ => rfl)).trans ?_
      refine (R_virt (i := 32) (f := 65) (kd := 0) (na := 1) (ml := 5) (ci := 5) (n := 1) (b := 35) (As := [.int x4]) (rest := []) (by decide +kernel) (by decide +kernel) (by decide) (by decide +kernel) rfl (by decide +kernel) rfl rfl (by decide +kernel) (Nat.le_of_ble_eq_true rfl)).trans ?_
      rfl
  · refine (R_iconst (n := 0) (v := 0) (by decide +kernel) (by decide +kernel)).trans ?_
    refine (R_pure0 (ins := .istore 5) (len := 2) (loc' := [.ref 35, .ref r1, .int x2, .int x3, .int x4, .int 0, .int x6]) (st' := []) (by decide +kernel) (fun _ => rfl)).trans ?_
    refine (R_pure0 (ins := .iload 5) (len := 2) (loc' := [.ref 35, .ref r1, .int x2, .int x3, .int x4, .int 0, .int x6]) (st' := [.int 0]) (by decide +kernel) (fun _ => rfl)).trans ?_
    refine (R_if_eq (off := 13) (t := 70) (by decide +kernel) (by decide +kernel)).trans ((if_pos (by decide)).trans ?_)
    refine (R_pure0 (ins := .aload_n 0) (len := 1) (loc' := [.ref 35, .ref r1, .int x2, .int x3, .int x4, .int 0, .int x6]) (st' := [.ref 35]) (by decide +kernel) (fun _ => rfl)).trans ?_
    refine (R_pure0 (ins := .iload 4) (len := 2) (loc' := [.ref 35, .ref r1, .int x2, .int x3, .int x4, .int 0, .int x6]) (st' := [.int x4, .ref 35]) (by decide +kernel) (fun _ => rfl)).trans ?_
    refine (R_virt (i := 32) (f := 65) (kd := 0) (na := 1) (ml := 5) (ci := 5) (n := 1) (b := 35) (As := [.int x4]) (rest := []) (by decide +kernel) (by decide +kernel) (by decide) (by decide +kernel) rfl (by decide +kernel) rfl rfl (by decide +kernel) (Nat.le_of_ble_eq_true rfl)).trans ?_
    rfl
theorem s64_119v3 {L : Nat} {mi : Nat → Nat → Int32} {ml : Nat → Nat → Int64} {d : Nat} {Q : Option Value → xM → Prop} {x2 x3 x4 x5 x6 y : Int32} {r1 : Nat} {n_r1 : Nat} (hS_r1 : isStrip L r1 n_r1) : X 64 119 [.ref 35, .ref r1, .int x2, .int x3, .int x4, .int x5, .int x6] [.int y] (SH L, mi, ml, MR) d Q =
    if ((y - y / 4 * 4) = 0) then (Q (some (.int (-9))) (SH L, mi, ml, MR)) else (Q (some (.int x2)) (SH L, mi, ml, MR)) := by
  refine (R_iconst (n := 4) (v := 4) (by decide +kernel) (by decide +kernel)).trans ?_
  refine (R_irem (x := y) (y := 4) (by decide +kernel) (by decide)).trans ?_
  refine (R_if_ne (off := 7) (t := 128) (by decide +kernel) (by decide +kernel)).trans (ite_congr rfl (fun c0 => ?_) (fun c0 => ?_))
  · refine (R_iconst (n := 1) (v := 1) (by decide +kernel) (by decide +kernel)).trans ?_
    refine (R_goto (off := 4) (t := 129) (by decide +kernel) (by decide +kernel)).trans ?_
    refine (R_pure0 (ins := .istore_n 3) (len := 1) (loc' := [.ref 35, .ref r1, .int x2, .int 1, .int x4, .int x5, .int x6]) (st' := []) (by decide +kernel) (fun _ => rfl)).trans ?_
    refine (R_pure0 (ins := .iload_n 3) (len := 1) (loc' := [.ref 35, .ref r1, .int x2, .int 1, .int x4, .int x5, .int x6]) (st' := [.int 1]) (by decide +kernel) (fun _ => rfl)).trans ?_
    refine (R_if_eq (off := 8) (t := 139) (by decide +kernel) (by decide +kernel)).trans ((if_neg (by decide)).trans ?_)
    refine (R_bipush (n := (-9)) (v := (-9)) (by decide +kernel) (by decide +kernel)).trans ?_
    refine (R_goto (off := 4) (t := 140) (by decide +kernel) (by decide +kernel)).trans ?_
    exact R_ireturn (by decide +kernel) (by decide +kernel)
  · refine (R_iconst (n := 0) (v := 0) (by decide +kernel) (by decide +kernel)).trans ?_
    refine (R_pure0 (ins := .istore_n 3) (len := 1) (loc' := [.ref 35, .ref r1, .int x2, .int 0, .int x4, .int x5, .int x6]) (st' := []) (by decide +kernel) (fun _ => rfl)).trans ?_
    refine (R_pure0 (ins := .iload_n 3) (len := 1) (loc' := [.ref 35, .ref r1, .int x2, .int 0, .int x4, .int x5, .int x6]) (st' := [.int 0]) (by decide +kernel) (fun _ => rfl)).trans ?_
    refine (R_if_eq (off := 8) (t := 139) (by decide +kernel) (by decide +kernel)).trans ((if_pos (by decide)).trans ?_)
    refine (R_pure0 (ins := .iload_n 2) (len := 1) (loc' := [.ref 35, .ref r1, .int x2, .int 0, .int x4, .int x5, .int x6]) (st' := [.int x2]) (by decide +kernel) (fun _ => rfl)).trans ?_
    exact R_ireturn (by decide +kernel) (by decide +kernel)
theorem s64_76v2 {L : Nat} {mi : Nat → Nat → Int32} {ml : Nat → Nat → Int64} {d : Nat} {Q : Option Value → xM → Prop} {x2 x3 x4 x5 x6 y : Int32} {r1 : Nat} {n_r1 : Nat} (hS_r1 : isStrip L r1 n_r1) : X 64 76 [.ref 35, .ref r1, .int x2, .int x3, .int x4, .int x5, .int x6] [.int y] (SH L, mi, ml, MR) (d + 1) Q =
    if (y = (-9)) then (Q (some (.int x3)) (SH L, mi, ml, MR)) else (Xm 93 [.ref 36, .int y] (SH L, mi, ml, MR) d (fun v μ' => X 64 96 [.ref 35, .ref r1, .int x2, .int x3, .int x4, .int x5, .int y] (v.toList ++ []) μ' (d + 1) Q)) := by
  refine (R_pure0 (ins := .istore 6) (len := 2) (loc' := [.ref 35, .ref r1, .int x2, .int x3, .int x4, .int x5, .int y]) (st' := []) (by decide +kernel) (fun _ => rfl)).trans ?_
  refine (R_pure0 (ins := .iload 6) (len := 2) (loc' := [.ref 35, .ref r1, .int x2, .int x3, .int x4, .int x5, .int y]) (st' := [.int y]) (by decide +kernel) (fun _ => rfl)).trans ?_
  refine (R_bipush (n := (-9)) (v := (-9)) (by decide +kernel) (by decide +kernel)).trans ?_
  refine (R_icmp_ne (off := 5) (t := 87) (by decide +kernel) (by decide +kernel)).trans (ite_congr rfl (fun c0 => ?_) (fun c0 => ?_))
  · refine (R_pure0 (ins := .iload_n 3) (len := 1) (loc' := [.ref 35, .ref r1, .int x2, .int x3, .int x4, .int x5, .int y]) (st' := [.int x3]) (by decide +kernel) (fun _ => rfl)).trans ?_
    exact R_ireturn (by decide +kernel) (by decide +kernel)
  · refine (R_pure0 (ins := .aload_n 0) (len := 1) (loc' := [.ref 35, .ref r1, .int x2, .int x3, .int x4, .int x5, .int y]) (st' := [.ref 35]) (by decide +kernel) (fun _ => rfl)).trans ?_
    refine (R_gr (i := 16) (ci := 5) (k := 0) (n := 1) (b := 36) (by decide +kernel) (by decide +kernel) (by decide) rfl (SH_ref (by decide +kernel))).trans ?_
    refine (R_pure0 (ins := .iload 6) (len := 2) (loc' := [.ref 35, .ref r1, .int x2, .int x3, .int x4, .int x5, .int y]) (st' := [.int y, .ref 36]) (by decide +kernel) (fun _ => rfl)).trans ?_
    refine (R_virt (i := 35) (f := 93) (kd := 0) (na := 1) (ml := 2) (ci := 8) (n := 2) (b := 36) (As := [.int y]) (rest := []) (by decide +kernel) (by decide +kernel) (by decide) (by decide +kernel) rfl (by decide +kernel) rfl rfl (by decide +kernel) (Nat.le_of_ble_eq_true rfl)).trans ?_
    rfl
theorem s65 {L : Nat} {mi : Nat → Nat → Int32} {ml : Nat → Nat → Int64} {d : Nat} {Q : Option Value → xM → Prop} {x1 : Int32} : Xm 65 [.ref 35, .int x1] (SH L, mi, ml, MR) (d + 1) Q =
    Xm 88 [.ref 36] (SH L, mi, ml, MR) d (fun v μ' => X 65 7 [.ref 35, .int x1, xmk, xmk, xmk] (v.toList ++ []) μ' (d + 1) Q) := by
  rw [Xm_ent (n := 5) (loc := [.ref 35, .int x1, xmk, xmk, xmk]) (by decide +kernel) rfl]
  refine (R_pure0 (ins := .aload_n 0) (len := 1) (loc' := [.ref 35, .int x1, xmk, xmk, xmk]) (st' := [.ref 35]) (by decide +kernel) (fun _ => rfl)).trans ?_
  refine (R_gr (i := 16) (ci := 5) (k := 0) (n := 1) (b := 36) (by decide +kernel) (by decide +kernel) (by decide) rfl (SH_ref (by decide +kernel))).trans ?_
  refine (R_virt (i := 24) (f := 88) (kd := 0) (na := 0) (ml := 1) (ci := 8) (n := 2) (b := 36) (As := []) (rest := []) (by decide +kernel) (by decide +kernel) (by decide) (by decide +kernel) rfl (by decide +kernel) rfl rfl (by decide +kernel) (Nat.le_of_ble_eq_true rfl)).trans ?_
  rfl
theorem s65_7 {L : Nat} {mi : Nat → Nat → Int32} {ml : Nat → Nat → Int64} {d : Nat} {Q : Option Value → xM → Prop} {x1 y : Int32} : X 65 7 [.ref 35, .int x1, xmk, xmk, xmk] [.int y] (SH L, mi, ml, MR) (d + 1) Q =
    if ((y - y / 4 * 4) = 0) then (Xm 66 [.ref 35] (SH L, mi, ml, MR) d (fun v μ' => X 65 18 [.ref 35, .int x1, .int (y - y / 4 * 4), xmk, xmk] (v.toList ++ []) μ' (d + 1) Q)) else (if ((y - y / 4 * 4) = 2) then (if ((x1 - 48) < 1) then (Q (some (.int (-9))) (SH L, mi, ml, MR)) else (if ((9 : Int32) < (x1 - 48)) then (Q (some (.int (-9))) (SH L, mi, ml, MR)) else (Q (some (.int (x1 - 48))) (SH L, mi, ml, MR)))) else (if ((x1 - 48) < 0) then (Q (some (.int (-9))) (SH L, mi, ml, MR)) else (if ((9 : Int32) < (x1 - 48)) then (Q (some (.int (-9))) (SH L, mi, ml, MR)) else (Q (some (.int (x1 - 48))) (SH L, mi, ml, MR))))) := by
  refine (R_iconst (n := 4) (v := 4) (by decide +kernel) (by decide +kernel)).trans ?_
  refine (R_irem (x := y) (y := 4) (by decide +kernel) (by decide)).trans ?_
  refine (R_pure0 (ins := .istore_n 2) (len := 1) (loc' := [.ref 35, .int x1, .int (y - y / 4 * 4), xmk, xmk]) (st' := []) (by decide +kernel) (fun _ => rfl)).trans ?_
  refine (R_pure0 (ins := .iload_n 2) (len := 1) (loc' := [.ref 35, .int x1, .int (y - y / 4 * 4), xmk, xmk]) (st' := [.int (y - y / 4 * 4)]) (by decide +kernel) (fun _ => rfl)).trans ?_
  refine (R_if_ne (off := 22) (t := 33) (by decide +kernel) (by decide +kernel)).trans (ite_congr rfl (fun c0 => ?_) (fun c0 => ?_))
  · refine (R_pure0 (ins := .aload_n 0) (len := 1) (loc' := [.ref 35, .int x1, .int (y - y / 4 * 4), xmk, xmk]) (st' := [.ref 35]) (by decide +kernel) (fun _ => rfl)).trans ?_
    refine (R_virt (i := 38) (f := 66) (kd := 0) (na := 0) (ml := 1) (ci := 5) (n := 1) (b := 35) (As := []) (rest := []) (by decide +kernel) (by decide +kernel) (by decide) (by decide +kernel) rfl (by decide +kernel) rfl rfl (by decide +kernel) (Nat.le_of_ble_eq_true rfl)).trans ?_
    rfl
  · refine (R_pure0 (ins := .iload_n 1) (len := 1) (loc' := [.ref 35, .int x1, .int (y - y / 4 * 4), xmk, xmk]) (st' := [.int x1]) (by decide +kernel) (fun _ => rfl)).trans ?_
    refine (R_bipush (n := 48) (v := 48) (by decide +kernel) (by decide +kernel)).trans ?_
    refine (R_pure0 (ins := .isub) (len := 1) (loc' := [.ref 35, .int x1, .int (y - y / 4 * 4), xmk, xmk]) (st' := [.int (x1 - 48)]) (by decide +kernel) (fun _ => rfl)).trans ?_
    refine (R_pure0 (ins := .istore_n 3) (len := 1) (loc' := [.ref 35, .int x1, .int (y - y / 4 * 4), .int (x1 - 48), xmk]) (st' := []) (by decide +kernel) (fun _ => rfl)).trans ?_
    refine (R_pure0 (ins := .iload_n 2) (len := 1) (loc' := [.ref 35, .int x1, .int (y - y / 4 * 4), .int (x1 - 48), xmk]) (st' := [.int (y - y / 4 * 4)]) (by decide +kernel) (fun _ => rfl)).trans ?_
    refine (R_iconst (n := 2) (v := 2) (by decide +kernel) (by decide +kernel)).trans ?_
    refine (R_icmp_ne (off := 7) (t := 47) (by decide +kernel) (by decide +kernel)).trans (ite_congr rfl (fun c1 => ?_) (fun c1 => ?_))
    · refine (R_iconst (n := 1) (v := 1) (by decide +kernel) (by decide +kernel)).trans ?_
      refine (R_goto (off := 4) (t := 48) (by decide +kernel) (by decide +kernel)).trans ?_
      refine (R_pure0 (ins := .istore 4) (len := 2) (loc' := [.ref 35, .int x1, .int (y - y / 4 * 4), .int (x1 - 48), .int 1]) (st' := []) (by decide +kernel) (fun _ => rfl)).trans ?_
      refine (R_pure0 (ins := .iload_n 3) (len := 1) (loc' := [.ref 35, .int x1, .int (y - y / 4 * 4), .int (x1 - 48), .int 1]) (st' := [.int (x1 - 48)]) (by decide +kernel) (fun _ => rfl)).trans ?_
      refine (R_pure0 (ins := .iload 4) (len := 2) (loc' := [.ref 35, .int x1, .int (y - y / 4 * 4), .int (x1 - 48), .int 1]) (st' := [.int 1, .int (x1 - 48)]) (by decide +kernel) (fun _ => rfl)).trans ?_
      refine (R_icmp_lt (off := 13) (t := 66) (by decide +kernel) (by decide +kernel)).trans (ite_congr rfl (fun c2 => ?_) (fun c2 => ?_))
      · refine (R_bipush (n := (-9)) (v := (-9)) (by decide +kernel) (by decide +kernel)).trans ?_
        exact R_ireturn (by decide +kernel) (by decide +kernel)
      · refine (R_pure0 (ins := .iload_n 3) (len := 1) (loc' := [.ref 35, .int x1, .int (y - y / 4 * 4), .int (x1 - 48), .int 1]) (st' := [.int (x1 - 48)]) (by decide +kernel) (fun _ => rfl)).trans ?_
        refine (R_bipush (n := 9) (v := 9) (by decide +kernel) (by decide +kernel)).trans ?_
        refine (R_icmp_gt (off := 7) (t := 66) (by decide +kernel) (by decide +kernel)).trans (ite_congr rfl (fun c3 => ?_) (fun c3 => ?_))
        · refine (R_bipush (n := (-9)) (v := (-9)) (by decide +kernel) (by decide +kernel)).trans ?_
          exact R_ireturn (by decide +kernel) (by decide +kernel)
        · refine (R_pure0 (ins := .iload_n 3) (len := 1) (loc' := [.ref 35, .int x1, .int (y - y / 4 * 4), .int (x1 - 48), .int 1]) (st' := [.int (x1 - 48)]) (by decide +kernel) (fun _ => rfl)).trans ?_
          refine (R_goto (off := 5) (t := 68) (by decide +kernel) (by decide +kernel)).trans ?_
          exact R_ireturn (by decide +kernel) (by decide +kernel)
    · refine (R_iconst (n := 0) (v := 0) (by decide +kernel) (by decide +kernel)).trans ?_
      refine (R_pure0 (ins := .istore 4) (len := 2) (loc' := [.ref 35, .int x1, .int (y - y / 4 * 4), .int (x1 - 48), .int 0]) (st' := []) (by decide +kernel) (fun _ => rfl)).trans ?_
      refine (R_pure0 (ins := .iload_n 3) (len := 1) (loc' := [.ref 35, .int x1, .int (y - y / 4 * 4), .int (x1 - 48), .int 0]) (st' := [.int (x1 - 48)]) (by decide +kernel) (fun _ => rfl)).trans ?_
      refine (R_pure0 (ins := .iload 4) (len := 2) (loc' := [.ref 35, .int x1, .int (y - y / 4 * 4), .int (x1 - 48), .int 0]) (st' := [.int 0, .int (x1 - 48)]) (by decide +kernel) (fun _ => rfl)).trans ?_
      refine (R_icmp_lt (off := 13) (t := 66) (by decide +kernel) (by decide +kernel)).trans (ite_congr rfl (fun c4 => ?_) (fun c4 => ?_))
      · refine (R_bipush (n := (-9)) (v := (-9)) (by decide +kernel) (by decide +kernel)).trans ?_
        exact R_ireturn (by decide +kernel) (by decide +kernel)
      · refine (R_pure0 (ins := .iload_n 3) (len := 1) (loc' := [.ref 35, .int x1, .int (y - y / 4 * 4), .int (x1 - 48), .int 0]) (st' := [.int (x1 - 48)]) (by decide +kernel) (fun _ => rfl)).trans ?_
        refine (R_bipush (n := 9) (v := 9) (by decide +kernel) (by decide +kernel)).trans ?_
        refine (R_icmp_gt (off := 7) (t := 66) (by decide +kernel) (by decide +kernel)).trans (ite_congr rfl (fun c5 => ?_) (fun c5 => ?_))
        · refine (R_bipush (n := (-9)) (v := (-9)) (by decide +kernel) (by decide +kernel)).trans ?_
          exact R_ireturn (by decide +kernel) (by decide +kernel)
        · refine (R_pure0 (ins := .iload_n 3) (len := 1) (loc' := [.ref 35, .int x1, .int (y - y / 4 * 4), .int (x1 - 48), .int 0]) (st' := [.int (x1 - 48)]) (by decide +kernel) (fun _ => rfl)).trans ?_
          refine (R_goto (off := 5) (t := 68) (by decide +kernel) (by decide +kernel)).trans ?_
          exact R_ireturn (by decide +kernel) (by decide +kernel)
theorem s65_18 {L : Nat} {mi : Nat → Nat → Int32} {ml : Nat → Nat → Int64} {d : Nat} {Q : Option Value → xM → Prop} {x1 x2 y : Int32} : X 65 18 [.ref 35, .int x1, .int x2, xmk, xmk] [.int y] (SH L, mi, ml, MR) (d + 1) Q =
    if (y = 6) then (Q (some (.int (-9))) (SH L, mi, ml, MR)) else (Xm 44 [.int x1] (SH L, mi, ml, MR) d (fun v μ' => X 65 32 [.ref 35, .int x1, .int x2, xmk, xmk] (v.toList ++ []) μ' (d + 1) Q)) := by
  refine (R_bipush (n := 6) (v := 6) (by decide +kernel) (by decide +kernel)).trans ?_
  refine (R_icmp_ne (off := 8) (t := 28) (by decide +kernel) (by decide +kernel)).trans (ite_congr rfl (fun c0 => ?_) (fun c0 => ?_))
  · refine (R_bipush (n := (-9)) (v := (-9)) (by decide +kernel) (by decide +kernel)).trans ?_
    refine (R_goto (off := 7) (t := 32) (by decide +kernel) (by decide +kernel)).trans ?_
    exact R_ireturn (by decide +kernel) (by decide +kernel)
  · refine (R_pure0 (ins := .iload_n 1) (len := 1) (loc' := [.ref 35, .int x1, .int x2, xmk, xmk]) (st' := [.int x1]) (by decide +kernel) (fun _ => rfl)).trans ?_
    refine (R_static (i := 41) (f := 44) (kd := 2) (na := 1) (ml := 2) (As := [.int x1]) (rest := []) (by decide +kernel) (by decide +kernel) (by decide) (by decide +kernel) rfl rfl (by decide +kernel) (Nat.le_of_ble_eq_true rfl)).trans ?_
    rfl
theorem s65_32 {L : Nat} {mi : Nat → Nat → Int32} {ml : Nat → Nat → Int64} {d : Nat} {Q : Option Value → xM → Prop} {x1 x2 y : Int32} : X 65 32 [.ref 35, .int x1, .int x2, xmk, xmk] [.int y] (SH L, mi, ml, MR) d Q =
    Q (some (.int y)) (SH L, mi, ml, MR) := by
  exact R_ireturn (by decide +kernel) (by decide +kernel)
theorem s66 {L : Nat} {mi : Nat → Nat → Int32} {ml : Nat → Nat → Int64} {d : Nat} {Q : Option Value → xM → Prop} : Xm 66 [.ref 35] (SH L, mi, ml, MR) (d + 1) Q =
    Xm 88 [.ref 36] (SH L, mi, ml, MR) d (fun v μ' => X 66 7 [.ref 35] (v.toList ++ []) μ' (d + 1) Q) := by
  rw [Xm_ent (n := 1) (loc := [.ref 35]) (by decide +kernel) rfl]
  refine (R_pure0 (ins := .aload_n 0) (len := 1) (loc' := [.ref 35]) (st' := [.ref 35]) (by decide +kernel) (fun _ => rfl)).trans ?_
  refine (R_gr (i := 16) (ci := 5) (k := 0) (n := 1) (b := 36) (by decide +kernel) (by decide +kernel) (by decide) rfl (SH_ref (by decide +kernel))).trans ?_
  refine (R_virt (i := 24) (f := 88) (kd := 0) (na := 0) (ml := 1) (ci := 8) (n := 2) (b := 36) (As := []) (rest := []) (by decide +kernel) (by decide +kernel) (by decide) (by decide +kernel) rfl (by decide +kernel) rfl rfl (by decide +kernel) (Nat.le_of_ble_eq_true rfl)).trans ?_
  rfl
theorem s66_7 {L : Nat} {mi : Nat → Nat → Int32} {ml : Nat → Nat → Int64} {d : Nat} {Q : Option Value → xM → Prop} {y : Int32} : X 66 7 [.ref 35] [.int y] (SH L, mi, ml, MR) d Q =
    Q (some (.int (y / 4))) (SH L, mi, ml, MR) := by
  refine (R_iconst (n := 4) (v := 4) (by decide +kernel) (by decide +kernel)).trans ?_
  refine (R_idiv (x := y) (y := 4) (by decide +kernel) (by decide)).trans ?_
  exact R_ireturn (by decide +kernel) (by decide +kernel)
theorem s67 {L : Nat} {mi : Nat → Nat → Int32} {ml : Nat → Nat → Int64} {d : Nat} {Q : Option Value → xM → Prop} {x1 x2 : Int32} : Xm 67 [.ref 35, .int x1, .int x2] (SH L, mi, ml, MR) (d + 1) Q =
    Xm 90 [.ref 36, .int ((x1 * 4) + x2)] (SH L, mi, ml, MR) d (fun v μ' => X 67 12 [.ref 35, .int x1, .int x2] (v.toList ++ []) μ' (d + 1) Q) := by
  rw [Xm_ent (n := 3) (loc := [.ref 35, .int x1, .int x2]) (by decide +kernel) rfl]
  refine (R_pure0 (ins := .aload_n 0) (len := 1) (loc' := [.ref 35, .int x1, .int x2]) (st' := [.ref 35]) (by decide +kernel) (fun _ => rfl)).trans ?_
  refine (R_gr (i := 16) (ci := 5) (k := 0) (n := 1) (b := 36) (by decide +kernel) (by decide +kernel) (by decide) rfl (SH_ref (by decide +kernel))).trans ?_
  refine (R_pure0 (ins := .iload_n 1) (len := 1) (loc' := [.ref 35, .int x1, .int x2]) (st' := [.int x1, .ref 36]) (by decide +kernel) (fun _ => rfl)).trans ?_
  refine (R_iconst (n := 4) (v := 4) (by decide +kernel) (by decide +kernel)).trans ?_
  refine (R_pure0 (ins := .imul) (len := 1) (loc' := [.ref 35, .int x1, .int x2]) (st' := [.int (x1 * 4), .ref 36]) (by decide +kernel) (fun _ => rfl)).trans ?_
  refine (R_pure0 (ins := .iload_n 2) (len := 1) (loc' := [.ref 35, .int x1, .int x2]) (st' := [.int x2, .int (x1 * 4), .ref 36]) (by decide +kernel) (fun _ => rfl)).trans ?_
  refine (R_pure0 (ins := .iadd) (len := 1) (loc' := [.ref 35, .int x1, .int x2]) (st' := [.int ((x1 * 4) + x2), .ref 36]) (by decide +kernel) (fun _ => rfl)).trans ?_
  refine (R_virt (i := 28) (f := 90) (kd := 0) (na := 1) (ml := 2) (ci := 8) (n := 2) (b := 36) (As := [.int ((x1 * 4) + x2)]) (rest := []) (by decide +kernel) (by decide +kernel) (by decide) (by decide +kernel) rfl (by decide +kernel) rfl rfl (by decide +kernel) (Nat.le_of_ble_eq_true rfl)).trans ?_
  rfl
theorem s67_12 {L : Nat} {mi : Nat → Nat → Int32} {ml : Nat → Nat → Int64} {d : Nat} {Q : Option Value → xM → Prop} {x1 x2 y : Int32} : X 67 12 [.ref 35, .int x1, .int x2] [.int y] (SH L, mi, ml, MR) d Q =
    Q (some (.int y)) (SH L, mi, ml, MR) := by
  exact R_ireturn (by decide +kernel) (by decide +kernel)
