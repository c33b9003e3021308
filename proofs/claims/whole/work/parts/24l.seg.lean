set_option maxRecDepth 4000 in
theorem s241_16 {L : Nat} {mi : Nat → Nat → Int32} {ml : Nat → Nat → Int64} {d : Nat} {Q : Option Value → xM → Prop} : X 241 16 [.ref 0, .ref 2, .ref 68, xmk] [] (SH L, mi, ml, MR) d Q =
    X 241 18 [.ref 0, .ref 2, .ref 68, .int 0] [] (SH L, mi, ml, MR) d Q := by
  refine (R_iconst (n := 0) (v := 0) (by decide +kernel) (by decide +kernel)).trans ?_
  refine (R_pure0 (ins := .istore_n 3) (len := 1) (loc' := [.ref 0, .ref 2, .ref 68, .int 0]) (st' := []) (by decide +kernel) (fun _ => rfl)).trans ?_
  rfl
set_option maxRecDepth 4000 in
theorem s241_18 {L : Nat} {mi : Nat → Nat → Int32} {ml : Nat → Nat → Int64} {d : Nat} {Q : Option Value → xM → Prop} {x3 : Int32} (h1 : ¬ (((Int32.ofNat L) - 6) < x3) → xin x3 L = true) : X 241 18 [.ref 0, .ref 2, .ref 68, .int x3] [] (SH L, mi, ml, MR) d Q =
    if (((Int32.ofNat L) - 6) < x3) then (Q (some (.int 1)) (SH L, mi, ml, MR)) else (if (((mi 0 x3.toNatClampNeg) &&& 63) = 0) then (X 241 216 [.ref 0, .ref 2, .ref 68, .int x3] [] (SH L, mi, ml, MR) d Q) else (if (((mi 0 x3.toNatClampNeg) &&& 63) = 1) then (X 241 249 [.ref 0, .ref 2, .ref 68, .int x3] [] (SH L, mi, ml, MR) d Q) else (if (((mi 0 x3.toNatClampNeg) &&& 63) = 2) then (X 241 292 [.ref 0, .ref 2, .ref 68, .int x3] [] (SH L, mi, ml, MR) d Q) else (if (((mi 0 x3.toNatClampNeg) &&& 63) = 3) then (X 241 325 [.ref 0, .ref 2, .ref 68, .int x3] [] (SH L, mi, ml, MR) d Q) else (if (((mi 0 x3.toNatClampNeg) &&& 63) = 4) then (X 241 348 [.ref 0, .ref 2, .ref 68, .int x3] [] (SH L, mi, ml, MR) d Q) else (if (((mi 0 x3.toNatClampNeg) &&& 63) = 5) then (X 241 411 [.ref 0, .ref 2, .ref 68, .int x3] [] (SH L, mi, ml, MR) d Q) else (if (((mi 0 x3.toNatClampNeg) &&& 63) = 6) then (X 241 434 [.ref 0, .ref 2, .ref 68, .int x3] [] (SH L, mi, ml, MR) d Q) else (if (((mi 0 x3.toNatClampNeg) &&& 63) = 7) then (X 241 467 [.ref 0, .ref 2, .ref 68, .int x3] [] (SH L, mi, ml, MR) d Q) else (if (((mi 0 x3.toNatClampNeg) &&& 63) = 8) then (X 241 510 [.ref 0, .ref 2, .ref 68, .int x3] [] (SH L, mi, ml, MR) d Q) else (if (((mi 0 x3.toNatClampNeg) &&& 63) = 9) then (X 241 533 [.ref 0, .ref 2, .ref 68, .int x3] [] (SH L, mi, ml, MR) d Q) else (if (((mi 0 x3.toNatClampNeg) &&& 63) = 10) then (X 241 556 [.ref 0, .ref 2, .ref 68, .int x3] [] (SH L, mi, ml, MR) d Q) else (if (((mi 0 x3.toNatClampNeg) &&& 63) = 11) then (X 241 589 [.ref 0, .ref 2, .ref 68, .int x3] [] (SH L, mi, ml, MR) d Q) else (if (((mi 0 x3.toNatClampNeg) &&& 63) = 12) then (X 241 622 [.ref 0, .ref 2, .ref 68, .int x3] [] (SH L, mi, ml, MR) d Q) else (if (((mi 0 x3.toNatClampNeg) &&& 63) = 13) then (X 241 655 [.ref 0, .ref 2, .ref 68, .int x3] [] (SH L, mi, ml, MR) d Q) else (if (((mi 0 x3.toNatClampNeg) &&& 63) = 14) then (X 241 668 [.ref 0, .ref 2, .ref 68, .int x3] [] (SH L, mi, ml, MR) d Q) else (if (((mi 0 x3.toNatClampNeg) &&& 63) = 15) then (X 241 691 [.ref 0, .ref 2, .ref 68, .int x3] [] (SH L, mi, ml, MR) d Q) else (if (((mi 0 x3.toNatClampNeg) &&& 63) = 16) then (X 241 714 [.ref 0, .ref 2, .ref 68, .int x3] [] (SH L, mi, ml, MR) d Q) else (if (((mi 0 x3.toNatClampNeg) &&& 63) = 17) then (X 241 737 [.ref 0, .ref 2, .ref 68, .int x3] [] (SH L, mi, ml, MR) d Q) else (if (((mi 0 x3.toNatClampNeg) &&& 63) = 18) then (X 241 760 [.ref 0, .ref 2, .ref 68, .int x3] [] (SH L, mi, ml, MR) d Q) else (if (((mi 0 x3.toNatClampNeg) &&& 63) = 19) then (X 241 783 [.ref 0, .ref 2, .ref 68, .int x3] [] (SH L, mi, ml, MR) d Q) else (if (((mi 0 x3.toNatClampNeg) &&& 63) = 20) then (X 241 806 [.ref 0, .ref 2, .ref 68, .int x3] [] (SH L, mi, ml, MR) d Q) else (if (((mi 0 x3.toNatClampNeg) &&& 63) = 21) then (X 241 819 [.ref 0, .ref 2, .ref 68, .int x3] [] (SH L, mi, ml, MR) d Q) else (if (((mi 0 x3.toNatClampNeg) &&& 63) = 22) then (X 241 852 [.ref 0, .ref 2, .ref 68, .int x3] [] (SH L, mi, ml, MR) d Q) else (if (((mi 0 x3.toNatClampNeg) &&& 63) = 23) then (X 241 895 [.ref 0, .ref 2, .ref 68, .int x3] [] (SH L, mi, ml, MR) d Q) else (if (((mi 0 x3.toNatClampNeg) &&& 63) = 24) then (X 241 928 [.ref 0, .ref 2, .ref 68, .int x3] [] (SH L, mi, ml, MR) d Q) else (if (((mi 0 x3.toNatClampNeg) &&& 63) = 25) then (X 241 951 [.ref 0, .ref 2, .ref 68, .int x3] [] (SH L, mi, ml, MR) d Q) else (if (((mi 0 x3.toNatClampNeg) &&& 63) = 26) then (X 241 974 [.ref 0, .ref 2, .ref 68, .int x3] [] (SH L, mi, ml, MR) d Q) else (if (((mi 0 x3.toNatClampNeg) &&& 63) = 27) then (X 241 997 [.ref 0, .ref 2, .ref 68, .int x3] [] (SH L, mi, ml, MR) d Q) else (if (((mi 0 x3.toNatClampNeg) &&& 63) = 28) then (X 241 1030 [.ref 0, .ref 2, .ref 68, .int x3] [] (SH L, mi, ml, MR) d Q) else (if (((mi 0 x3.toNatClampNeg) &&& 63) = 29) then (X 241 1063 [.ref 0, .ref 2, .ref 68, .int x3] [] (SH L, mi, ml, MR) d Q) else (if (((mi 0 x3.toNatClampNeg) &&& 63) = 30) then (X 241 1106 [.ref 0, .ref 2, .ref 68, .int x3] [] (SH L, mi, ml, MR) d Q) else (if (((mi 0 x3.toNatClampNeg) &&& 63) = 31) then (X 241 1139 [.ref 0, .ref 2, .ref 68, .int x3] [] (SH L, mi, ml, MR) d Q) else (if (((mi 0 x3.toNatClampNeg) &&& 63) = 32) then (X 241 1162 [.ref 0, .ref 2, .ref 68, .int x3] [] (SH L, mi, ml, MR) d Q) else (if (((mi 0 x3.toNatClampNeg) &&& 63) = 33) then (X 241 1195 [.ref 0, .ref 2, .ref 68, .int x3] [] (SH L, mi, ml, MR) d Q) else (if (((mi 0 x3.toNatClampNeg) &&& 63) = 34) then (X 241 1218 [.ref 0, .ref 2, .ref 68, .int x3] [] (SH L, mi, ml, MR) d Q) else (if (((mi 0 x3.toNatClampNeg) &&& 63) = 35) then (X 241 1251 [.ref 0, .ref 2, .ref 68, .int x3] [] (SH L, mi, ml, MR) d Q) else (if (((mi 0 x3.toNatClampNeg) &&& 63) = 36) then (X 241 1264 [.ref 0, .ref 2, .ref 68, .int x3] [] (SH L, mi, ml, MR) d Q) else (if (((mi 0 x3.toNatClampNeg) &&& 63) = 37) then (X 241 1278 [.ref 0, .ref 2, .ref 68, .int x3] [] (SH L, mi, ml, MR) d Q) else (if (((mi 0 x3.toNatClampNeg) &&& 63) = 38) then (X 241 1292 [.ref 0, .ref 2, .ref 68, .int x3] [] (SH L, mi, ml, MR) d Q) else (if (((mi 0 x3.toNatClampNeg) &&& 63) = 39) then (X 241 1315 [.ref 0, .ref 2, .ref 68, .int x3] [] (SH L, mi, ml, MR) d Q) else (if (((mi 0 x3.toNatClampNeg) &&& 63) = 40) then (X 241 1328 [.ref 0, .ref 2, .ref 68, .int x3] [] (SH L, mi, ml, MR) d Q) else (if (((mi 0 x3.toNatClampNeg) &&& 63) = 41) then (X 241 1351 [.ref 0, .ref 2, .ref 68, .int x3] [] (SH L, mi, ml, MR) d Q) else (X 241 1365 [.ref 0, .ref 2, .ref 68, .int x3] [] (SH L, mi, ml, MR) d Q))))))))))))))))))))))))))))))))))))))))))) := by
  refine (R_pure0 (ins := .iload_n 3) (len := 1) (loc' := [.ref 0, .ref 2, .ref 68, .int x3]) (st' := [.int x3]) (by decide +kernel) (fun _ => rfl)).trans ?_
  refine (R_pure0 (ins := .aload_n 0) (len := 1) (loc' := [.ref 0, .ref 2, .ref 68, .int x3]) (st' := [.ref 0, .int x3]) (by decide +kernel) (fun _ => rfl)).trans ?_
  refine (R_arraylength (kd := 105) (n := L) (by decide +kernel) rfl (by decide)).trans ?_
  refine (R_bipush (n := 6) (v := 6) (by decide +kernel) (by decide +kernel)).trans ?_
  refine (R_pure0 (ins := .isub) (len := 1) (loc' := [.ref 0, .ref 2, .ref 68, .int x3]) (st' := [.int ((Int32.ofNat L) - 6), .int x3]) (by decide +kernel) (fun _ => rfl)).trans ?_
  refine (R_icmp_gt (off := 1347) (t := 1371) (by decide +kernel) (by decide +kernel)).trans (ite_congr rfl (fun c0 => ?_) (fun c0 => ?_))
  · refine (R_iconst (n := 1) (v := 1) (by decide +kernel) (by decide +kernel)).trans ?_
    exact R_zreturn (by decide +kernel) (by decide +kernel) (by decide)
  · refine (R_pure0 (ins := .aload_n 0) (len := 1) (loc' := [.ref 0, .ref 2, .ref 68, .int x3]) (st' := [.ref 0]) (by decide +kernel) (fun _ => rfl)).trans ?_
    refine (R_pure0 (ins := .iload_n 3) (len := 1) (loc' := [.ref 0, .ref 2, .ref 68, .int x3]) (st' := [.int x3, .ref 0]) (by decide +kernel) (fun _ => rfl)).trans ?_
    refine (R_iaload (kd := 105) (n := L) (by decide +kernel) rfl (by decide) (h1 c0)).trans ?_
    refine (R_bipush (n := 63) (v := 63) (by decide +kernel) (by decide +kernel)).trans ?_
    refine (R_pure0 (ins := .iand) (len := 1) (loc' := [.ref 0, .ref 2, .ref 68, .int x3]) (st' := [.int ((mi 0 x3.toNatClampNeg) &&& 63)]) (by decide +kernel) (fun _ => rfl)).trans ?_
    refine (R_switch (df := 1332) (lo := 0) (hi := 41) (offs := #[183, 216, 259, 292, 315, 378, 401, 434, 477, 500, 523, 556, 589, 622, 635, 658, 681, 704, 727, 750, 773, 786, 819, 862, 895, 918, 941, 964, 997, 1030, 1073, 1106, 1129, 1162, 1185, 1218, 1231, 1245, 1259, 1282, 1295, 1318]) (len := 183) (l0 := 0) (dt := 1365) (ts := [216, 249, 292, 325, 348, 411, 434, 467, 510, 533, 556, 589, 622, 655, 668, 691, 714, 737, 760, 783, 806, 819, 852, 895, 928, 951, 974, 997, 1030, 1063, 1106, 1139, 1162, 1195, 1218, 1251, 1264, 1278, 1292, 1315, 1328, 1351]) (by decide +kernel) (by decide +kernel)).trans ?_
    refine ite_congr rfl (fun c1 => ?_) (fun c1 => ?_)
    · rfl
    · refine ite_congr rfl (fun c2 => ?_) (fun c2 => ?_)
      · rfl
      · refine ite_congr rfl (fun c3 => ?_) (fun c3 => ?_)
        · rfl
        · refine ite_congr rfl (fun c4 => ?_) (fun c4 => ?_)
          · rfl
          · refine ite_congr rfl (fun c5 => ?_) (fun c5 => ?_)
            · rfl
            · refine ite_congr rfl (fun c6 => ?_) (fun c6 => ?_)
              · rfl
              · refine ite_congr rfl (fun c7 => ?_) (fun c7 => ?_)
                · rfl
                · refine ite_congr rfl (fun c8 => ?_) (fun c8 => ?_)
                  · rfl
                  · refine ite_congr rfl (fun c9 => ?_) (fun c9 => ?_)
                    · rfl
                    · refine ite_congr rfl (fun c10 => ?_) (fun c10 => ?_)
                      · rfl
                      · refine ite_congr rfl (fun c11 => ?_) (fun c11 => ?_)
                        · rfl
                        · refine ite_congr rfl (fun c12 => ?_) (fun c12 => ?_)
                          · rfl
                          · refine ite_congr rfl (fun c13 => ?_) (fun c13 => ?_)
                            · rfl
                            · refine ite_congr rfl (fun c14 => ?_) (fun c14 => ?_)
                              · rfl
                              · refine ite_congr rfl (fun c15 => ?_) (fun c15 => ?_)
                                · rfl
                                · refine ite_congr rfl (fun c16 => ?_) (fun c16 => ?_)
                                  · rfl
                                  · refine ite_congr rfl (fun c17 => ?_) (fun c17 => ?_)
                                    · rfl
                                    · refine ite_congr rfl (fun c18 => ?_) (fun c18 => ?_)
                                      · rfl
                                      · refine ite_congr rfl (fun c19 => ?_) (fun c19 => ?_)
                                        · rfl
                                        · refine ite_congr rfl (fun c20 => ?_) (fun c20 => ?_)
                                          · rfl
                                          · refine ite_congr rfl (fun c21 => ?_) (fun c21 => ?_)
                                            · rfl
                                            · refine ite_congr rfl (fun c22 => ?_) (fun c22 => ?_)
                                              · rfl
                                              · refine ite_congr rfl (fun c23 => ?_) (fun c23 => ?_)
                                                · rfl
                                                · refine ite_congr rfl (fun c24 => ?_) (fun c24 => ?_)
                                                  · rfl
                                                  · refine ite_congr rfl (fun c25 => ?_) (fun c25 => ?_)
                                                    · rfl
                                                    · refine ite_congr rfl (fun c26 => ?_) (fun c26 => ?_)
                                                      · rfl
                                                      · refine ite_congr rfl (fun c27 => ?_) (fun c27 => ?_)
                                                        · rfl
                                                        · refine ite_congr rfl (fun c28 => ?_) (fun c28 => ?_)
                                                          · rfl
                                                          · refine ite_congr rfl (fun c29 => ?_) (fun c29 => ?_)
                                                            · rfl
                                                            · refine ite_congr rfl (fun c30 => ?_) (fun c30 => ?_)
                                                              · rfl
                                                              · refine ite_congr rfl (fun c31 => ?_) (fun c31 => ?_)
                                                                · rfl
                                                                · refine ite_congr rfl (fun c32 => ?_) (fun c32 => ?_)
                                                                  · rfl
                                                                  · refine ite_congr rfl (fun c33 => ?_) (fun c33 => ?_)
                                                                    · rfl
                                                                    · refine ite_congr rfl (fun c34 => ?_) (fun c34 => ?_)
                                                                      · rfl
                                                                      · refine ite_congr rfl (fun c35 => ?_) (fun c35 => ?_)
                                                                        · rfl
                                                                        · refine ite_congr rfl (fun c36 => ?_) (fun c36 => ?_)
                                                                          · rfl
                                                                          · refine ite_congr rfl (fun c37 => ?_) (fun c37 => ?_)
                                                                            · rfl
                                                                            · refine ite_congr rfl (fun c38 => ?_) (fun c38 => ?_)
                                                                              · rfl
                                                                              · refine ite_congr rfl (fun c39 => ?_) (fun c39 => ?_)
                                                                                · rfl
                                                                                · refine ite_congr rfl (fun c40 => ?_) (fun c40 => ?_)
                                                                                  · rfl
                                                                                  · refine ite_congr rfl (fun c41 => ?_) (fun c41 => ?_)
                                                                                    · rfl
                                                                                    · refine ite_congr rfl (fun c42 => ?_) (fun c42 => ?_)
                                                                                      · rfl
                                                                                      · rfl
set_option maxRecDepth 4000 in
theorem s241_1365 {L : Nat} {mi : Nat → Nat → Int32} {ml : Nat → Nat → Int64} {d : Nat} {Q : Option Value → xM → Prop} {x3 : Int32} : X 241 1365 [.ref 0, .ref 2, .ref 68, .int x3] [] (SH L, mi, ml, MR) d Q =
    X 241 18 [.ref 0, .ref 2, .ref 68, .int (x3 + 6)] [] (SH L, mi, ml, MR) d Q := by
  refine (R_iinc (k := 3) (n := 6) (x := x3) (v := (x3 + 6)) (loc' := [.ref 0, .ref 2, .ref 68, .int (x3 + 6)]) (by decide +kernel) rfl rfl rfl).trans ?_
  refine (R_goto (off := (-1350)) (t := 18) (by decide +kernel) (by decide +kernel)).trans ?_
  rfl
set_option maxRecDepth 4000 in
theorem s241_216 {L : Nat} {mi : Nat → Nat → Int32} {ml : Nat → Nat → Int64} {d : Nat} {Q : Option Value → xM → Prop} {x3 : Int32} (h1 : xin (x3 + 1) L = true) (h2 : xin (x3 + 2) L = true) : X 241 216 [.ref 0, .ref 2, .ref 68, .int x3] [] (SH L, mi, ml, MR) (d + 1) Q =
    Xm 99 [.ref 2, .int (mi 0 (x3 + 1).toNatClampNeg), .int (mi 0 (x3 + 2).toNatClampNeg)] (SH L, mi, ml, MR) d (fun v μ' => X 241 230 [.ref 0, .ref 2, .ref 68, .int x3] (v.toList ++ []) μ' (d + 1) Q) := by
  refine (R_pure0 (ins := .aload_n 1) (len := 1) (loc' := [.ref 0, .ref 2, .ref 68, .int x3]) (st' := [.ref 2]) (by decide +kernel) (fun _ => rfl)).trans ?_
  refine (R_pure0 (ins := .aload_n 0) (len := 1) (loc' := [.ref 0, .ref 2, .ref 68, .int x3]) (st' := [.ref 0, .ref 2]) (by decide +kernel) (fun _ => rfl)).trans ?_
  refine (R_pure0 (ins := .iload_n 3) (len := 1) (loc' := [.ref 0, .ref 2, .ref 68, .int x3]) (st' := [.int x3, .ref 0, .ref 2]) (by decide +kernel) (fun _ => rfl)).trans ?_
  refine (R_iconst (n := 1) (v := 1) (by decide +kernel) (by decide +kernel)).trans ?_
  refine (R_pure0 (ins := .iadd) (len := 1) (loc' := [.ref 0, .ref 2, .ref 68, .int x3]) (st' := [.int (x3 + 1), .ref 0, .ref 2]) (by decide +kernel) (fun _ => rfl)).trans ?_
  refine (R_iaload (kd := 105) (n := L) (by decide +kernel) rfl (by decide) (h1)).trans ?_
  refine (R_pure0 (ins := .aload_n 0) (len := 1) (loc' := [.ref 0, .ref 2, .ref 68, .int x3]) (st' := [.ref 0, .int (mi 0 (x3 + 1).toNatClampNeg), .ref 2]) (by decide +kernel) (fun _ => rfl)).trans ?_
  refine (R_pure0 (ins := .iload_n 3) (len := 1) (loc' := [.ref 0, .ref 2, .ref 68, .int x3]) (st' := [.int x3, .ref 0, .int (mi 0 (x3 + 1).toNatClampNeg), .ref 2]) (by decide +kernel) (fun _ => rfl)).trans ?_
  refine (R_iconst (n := 2) (v := 2) (by decide +kernel) (by decide +kernel)).trans ?_
  refine (R_pure0 (ins := .iadd) (len := 1) (loc' := [.ref 0, .ref 2, .ref 68, .int x3]) (st' := [.int (x3 + 2), .ref 0, .int (mi 0 (x3 + 1).toNatClampNeg), .ref 2]) (by decide +kernel) (fun _ => rfl)).trans ?_
  refine (R_iaload (kd := 105) (n := L) (by decide +kernel) rfl (by decide) (h2)).trans ?_
  refine (R_virt (i := 13) (f := 99) (kd := 0) (na := 2) (ml := 3) (ci := 9) (n := 12) (b := 2) (As := [.int (mi 0 (x3 + 1).toNatClampNeg), .int (mi 0 (x3 + 2).toNatClampNeg)]) (rest := []) (by decide +kernel) (by decide +kernel) (by decide) (by decide +kernel) rfl (by decide +kernel) rfl rfl (by decide +kernel) (Nat.le_of_ble_eq_true rfl)).trans ?_
  rfl
set_option maxRecDepth 4000 in
theorem s241_230 {L : Nat} {mi : Nat → Nat → Int32} {ml : Nat → Nat → Int64} {d : Nat} {Q : Option Value → xM → Prop} {x3 y : Int32} (h1 : xin (x3 + 1) L = true) (h2 : xin (x3 + 2) L = true) : X 241 230 [.ref 0, .ref 2, .ref 68, .int x3] [.int y] (SH L, mi, ml, MR) (d + 1) Q =
    Xm 157 [.ref 68, .int (mi 0 (x3 + 1).toNatClampNeg), .int (mi 0 (x3 + 2).toNatClampNeg)] (SH L, mi, ml, MR) d (fun v μ' => X 241 244 [.ref 0, .ref 2, .ref 68, .int x3] (v.toList ++ [.int y]) μ' (d + 1) Q) := by
  refine (R_pure0 (ins := .aload_n 2) (len := 1) (loc' := [.ref 0, .ref 2, .ref 68, .int x3]) (st' := [.ref 68, .int y]) (by decide +kernel) (fun _ => rfl)).trans ?_
  refine (R_pure0 (ins := .aload_n 0) (len := 1) (loc' := [.ref 0, .ref 2, .ref 68, .int x3]) (st' := [.ref 0, .ref 68, .int y]) (by decide +kernel) (fun _ => rfl)).trans ?_
  refine (R_pure0 (ins := .iload_n 3) (len := 1) (loc' := [.ref 0, .ref 2, .ref 68, .int x3]) (st' := [.int x3, .ref 0, .ref 68, .int y]) (by decide +kernel) (fun _ => rfl)).trans ?_
  refine (R_iconst (n := 1) (v := 1) (by decide +kernel) (by decide +kernel)).trans ?_
  refine (R_pure0 (ins := .iadd) (len := 1) (loc' := [.ref 0, .ref 2, .ref 68, .int x3]) (st' := [.int (x3 + 1), .ref 0, .ref 68, .int y]) (by decide +kernel) (fun _ => rfl)).trans ?_
  refine (R_iaload (kd := 105) (n := L) (by decide +kernel) rfl (by decide) (h1)).trans ?_
  refine (R_pure0 (ins := .aload_n 0) (len := 1) (loc' := [.ref 0, .ref 2, .ref 68, .int x3]) (st' := [.ref 0, .int (mi 0 (x3 + 1).toNatClampNeg), .ref 68, .int y]) (by decide +kernel) (fun _ => rfl)).trans ?_
  refine (R_pure0 (ins := .iload_n 3) (len := 1) (loc' := [.ref 0, .ref 2, .ref 68, .int x3]) (st' := [.int x3, .ref 0, .int (mi 0 (x3 + 1).toNatClampNeg), .ref 68, .int y]) (by decide +kernel) (fun _ => rfl)).trans ?_
  refine (R_iconst (n := 2) (v := 2) (by decide +kernel) (by decide +kernel)).trans ?_
  refine (R_pure0 (ins := .iadd) (len := 1) (loc' := [.ref 0, .ref 2, .ref 68, .int x3]) (st' := [.int (x3 + 2), .ref 0, .int (mi 0 (x3 + 1).toNatClampNeg), .ref 68, .int y]) (by decide +kernel) (fun _ => rfl)).trans ?_
  refine (R_iaload (kd := 105) (n := L) (by decide +kernel) rfl (by decide) (h2)).trans ?_
  refine (R_virt (i := 17) (f := 157) (kd := 0) (na := 2) (ml := 4) (ci := 10) (n := 33) (b := 68) (As := [.int (mi 0 (x3 + 1).toNatClampNeg), .int (mi 0 (x3 + 2).toNatClampNeg)]) (rest := [.int y]) (by decide +kernel) (by decide +kernel) (by decide) (by decide +kernel) rfl (by decide +kernel) rfl rfl (by decide +kernel) (Nat.le_of_ble_eq_true rfl)).trans ?_
  rfl
set_option maxRecDepth 4000 in
theorem s241_244 {L : Nat} {mi : Nat → Nat → Int32} {ml : Nat → Nat → Int64} {d : Nat} {Q : Option Value → xM → Prop} {w x3 z0 : Int32} : X 241 244 [.ref 0, .ref 2, .ref 68, .int x3] [.int w, .int z0] (SH L, mi, ml, MR) d Q =
    if (z0 = w) then (X 241 1365 [.ref 0, .ref 2, .ref 68, .int x3] [] (SH L, mi, ml, MR) d Q) else (Q (some (.int 0)) (SH L, mi, ml, MR)) := by
  refine (R_icmp_eq (off := 1121) (t := 1365) (by decide +kernel) (by decide +kernel)).trans (ite_congr rfl (fun c0 => ?_) (fun c0 => ?_))
  · rfl
  · refine (R_iconst (n := 0) (v := 0) (by decide +kernel) (by decide +kernel)).trans ?_
    exact R_zreturn (by decide +kernel) (by decide +kernel) (by decide)
set_option maxRecDepth 4000 in
theorem s241_249 {L : Nat} {mi : Nat → Nat → Int32} {ml : Nat → Nat → Int64} {d : Nat} {Q : Option Value → xM → Prop} {x3 : Int32} (h1 : xin (x3 + 1) L = true) (h2 : xin (x3 + 2) L = true) (h3 : xin (x3 + 3) L = true) : X 241 249 [.ref 0, .ref 2, .ref 68, .int x3] [] (SH L, mi, ml, MR) (d + 1) Q =
    Xm 100 [.ref 2, .int (mi 0 (x3 + 1).toNatClampNeg), .int (mi 0 (x3 + 2).toNatClampNeg), .int (mi 0 (x3 + 3).toNatClampNeg)] (SH L, mi, ml, MR) d (fun v μ' => X 241 268 [.ref 0, .ref 2, .ref 68, .int x3] (v.toList ++ []) μ' (d + 1) Q) := by
  refine (R_pure0 (ins := .aload_n 1) (len := 1) (loc' := [.ref 0, .ref 2, .ref 68, .int x3]) (st' := [.ref 2]) (by decide +kernel) (fun _ => rfl)).trans ?_
  refine (R_pure0 (ins := .aload_n 0) (len := 1) (loc' := [.ref 0, .ref 2, .ref 68, .int x3]) (st' := [.ref 0, .ref 2]) (by decide +kernel) (fun _ => rfl)).trans ?_
  refine (R_pure0 (ins := .iload_n 3) (len := 1) (loc' := [.ref 0, .ref 2, .ref 68, .int x3]) (st' := [.int x3, .ref 0, .ref 2]) (by decide +kernel) (fun _ => rfl)).trans ?_
  refine (R_iconst (n := 1) (v := 1) (by decide +kernel) (by decide +kernel)).trans ?_
  refine (R_pure0 (ins := .iadd) (len := 1) (loc' := [.ref 0, .ref 2, .ref 68, .int x3]) (st' := [.int (x3 + 1), .ref 0, .ref 2]) (by decide +kernel) (fun _ => rfl)).trans ?_
  refine (R_iaload (kd := 105) (n := L) (by decide +kernel) rfl (by decide) (h1)).trans ?_
  refine (R_pure0 (ins := .aload_n 0) (len := 1) (loc' := [.ref 0, .ref 2, .ref 68, .int x3]) (st' := [.ref 0, .int (mi 0 (x3 + 1).toNatClampNeg), .ref 2]) (by decide +kernel) (fun _ => rfl)).trans ?_
  refine (R_pure0 (ins := .iload_n 3) (len := 1) (loc' := [.ref 0, .ref 2, .ref 68, .int x3]) (st' := [.int x3, .ref 0, .int (mi 0 (x3 + 1).toNatClampNeg), .ref 2]) (by decide +kernel) (fun _ => rfl)).trans ?_
  refine (R_iconst (n := 2) (v := 2) (by decide +kernel) (by decide +kernel)).trans ?_
  refine (R_pure0 (ins := .iadd) (len := 1) (loc' := [.ref 0, .ref 2, .ref 68, .int x3]) (st' := [.int (x3 + 2), .ref 0, .int (mi 0 (x3 + 1).toNatClampNeg), .ref 2]) (by decide +kernel) (fun _ => rfl)).trans ?_
  refine (R_iaload (kd := 105) (n := L) (by decide +kernel) rfl (by decide) (h2)).trans ?_
  refine (R_pure0 (ins := .aload_n 0) (len := 1) (loc' := [.ref 0, .ref 2, .ref 68, .int x3]) (st' := [.ref 0, .int (mi 0 (x3 + 2).toNatClampNeg), .int (mi 0 (x3 + 1).toNatClampNeg), .ref 2]) (by decide +kernel) (fun _ => rfl)).trans ?_
  refine (R_pure0 (ins := .iload_n 3) (len := 1) (loc' := [.ref 0, .ref 2, .ref 68, .int x3]) (st' := [.int x3, .ref 0, .int (mi 0 (x3 + 2).toNatClampNeg), .int (mi 0 (x3 + 1).toNatClampNeg), .ref 2]) (by decide +kernel) (fun _ => rfl)).trans ?_
  refine (R_iconst (n := 3) (v := 3) (by decide +kernel) (by decide +kernel)).trans ?_
  refine (R_pure0 (ins := .iadd) (len := 1) (loc' := [.ref 0, .ref 2, .ref 68, .int x3]) (st' := [.int (x3 + 3), .ref 0, .int (mi 0 (x3 + 2).toNatClampNeg), .int (mi 0 (x3 + 1).toNatClampNeg), .ref 2]) (by decide +kernel) (fun _ => rfl)).trans ?_
  refine (R_iaload (kd := 105) (n := L) (by decide +kernel) rfl (by decide) (h3)).trans ?_
  refine (R_virt (i := 18) (f := 100) (kd := 0) (na := 3) (ml := 6) (ci := 9) (n := 12) (b := 2) (As := [.int (mi 0 (x3 + 1).toNatClampNeg), .int (mi 0 (x3 + 2).toNatClampNeg), .int (mi 0 (x3 + 3).toNatClampNeg)]) (rest := []) (by decide +kernel) (by decide +kernel) (by decide) (by decide +kernel) rfl (by decide +kernel) rfl rfl (by decide +kernel) (Nat.le_of_ble_eq_true rfl)).trans ?_
  rfl
set_option maxRecDepth 4000 in
theorem s241_268 {L : Nat} {mi : Nat → Nat → Int32} {ml : Nat → Nat → Int64} {d : Nat} {Q : Option Value → xM → Prop} {x3 y : Int32} (h1 : xin (x3 + 1) L = true) (h2 : xin (x3 + 2) L = true) (h3 : xin (x3 + 3) L = true) : X 241 268 [.ref 0, .ref 2, .ref 68, .int x3] [.int y] (SH L, mi, ml, MR) (d + 1) Q =
    Xm 158 [.ref 68, .int (mi 0 (x3 + 1).toNatClampNeg), .int (mi 0 (x3 + 2).toNatClampNeg), .int (mi 0 (x3 + 3).toNatClampNeg)] (SH L, mi, ml, MR) d (fun v μ' => X 241 287 [.ref 0, .ref 2, .ref 68, .int x3] (v.toList ++ [.int y]) μ' (d + 1) Q) := by
  refine (R_pure0 (ins := .aload_n 2) (len := 1) (loc' := [.ref 0, .ref 2, .ref 68, .int x3]) (st' := [.ref 68, .int y]) (by decide +kernel) (fun _ => rfl)).trans ?_
  refine (R_pure0 (ins := .aload_n 0) (len := 1) (loc' := [.ref 0, .ref 2, .ref 68, .int x3]) (st' := [.ref 0, .ref 68, .int y]) (by decide +kernel) (fun _ => rfl)).trans ?_
  refine (R_pure0 (ins := .iload_n 3) (len := 1) (loc' := [.ref 0, .ref 2, .ref 68, .int x3]) (st' := [.int x3, .ref 0, .ref 68, .int y]) (by decide +kernel) (fun _ => rfl)).trans ?_
  refine (R_iconst (n := 1) (v := 1) (by decide +kernel) (by decide +kernel)).trans ?_
  refine (R_pure0 (ins := .iadd) (len := 1) (loc' := [.ref 0, .ref 2, .ref 68, .int x3]) (st' := [.int (x3 + 1), .ref 0, .ref 68, .int y]) (by decide +kernel) (fun _ => rfl)).trans ?_
  refine (R_iaload (kd := 105) (n := L) (by decide +kernel) rfl (by decide) (h1)).trans ?_
  refine (R_pure0 (ins := .aload_n 0) (len := 1) (loc' := [.ref 0, .ref 2, .ref 68, .int x3]) (st' := [.ref 0, .int (mi 0 (x3 + 1).toNatClampNeg), .ref 68, .int y]) (by decide +kernel) (fun _ => rfl)).trans ?_
  refine (R_pure0 (ins := .iload_n 3) (len := 1) (loc' := [.ref 0, .ref 2, .ref 68, .int x3]) (st' := [.int x3, .ref 0, .int (mi 0 (x3 + 1).toNatClampNeg), .ref 68, .int y]) (by decide +kernel) (fun _ => rfl)).trans ?_
  refine (R_iconst (n := 2) (v := 2) (by decide +kernel) (by decide +kernel)).trans ?_
  refine (R_pure0 (ins := .iadd) (len := 1) (loc' := [.ref 0, .ref 2, .ref 68, .int x3]) (st' := [.int (x3 + 2), .ref 0, .int (mi 0 (x3 + 1).toNatClampNeg), .ref 68, .int y]) (by decide +kernel) (fun _ => rfl)).trans ?_
  refine (R_iaload (kd := 105) (n := L) (by decide +kernel) rfl (by decide) (h2)).trans ?_
  refine (R_pure0 (ins := .aload_n 0) (len := 1) (loc' := [.ref 0, .ref 2, .ref 68, .int x3]) (st' := [.ref 0, .int (mi 0 (x3 + 2).toNatClampNeg), .int (mi 0 (x3 + 1).toNatClampNeg), .ref 68, .int y]) (by decide +kernel) (fun _ => rfl)).trans ?_
  refine (R_pure0 (ins := .iload_n 3) (len := 1) (loc' := [.ref 0, .ref 2, .ref 68, .int x3]) (st' := [.int x3, .ref 0, .int (mi 0 (x3 + 2).toNatClampNeg), .int (mi 0 (x3 + 1).toNatClampNeg), .ref 68, .int y]) (by decide +kernel) (fun _ => rfl)).trans ?_
  refine (R_iconst (n := 3) (v := 3) (by decide +kernel) (by decide +kernel)).trans ?_
  refine (R_pure0 (ins := .iadd) (len := 1) (loc' := [.ref 0, .ref 2, .ref 68, .int x3]) (st' := [.int (x3 + 3), .ref 0, .int (mi 0 (x3 + 2).toNatClampNeg), .int (mi 0 (x3 + 1).toNatClampNeg), .ref 68, .int y]) (by decide +kernel) (fun _ => rfl)).trans ?_
  refine (R_iaload (kd := 105) (n := L) (by decide +kernel) rfl (by decide) (h3)).trans ?_
  refine (R_virt (i := 22) (f := 158) (kd := 0) (na := 3) (ml := 5) (ci := 10) (n := 33) (b := 68) (As := [.int (mi 0 (x3 + 1).toNatClampNeg), .int (mi 0 (x3 + 2).toNatClampNeg), .int (mi 0 (x3 + 3).toNatClampNeg)]) (rest := [.int y]) (by decide +kernel) (by decide +kernel) (by decide) (by decide +kernel) rfl (by decide +kernel) rfl rfl (by decide +kernel) (Nat.le_of_ble_eq_true rfl)).trans ?_
  rfl
set_option maxRecDepth 4000 in
theorem s241_287 {L : Nat} {mi : Nat → Nat → Int32} {ml : Nat → Nat → Int64} {d : Nat} {Q : Option Value → xM → Prop} {w x3 z0 : Int32} : X 241 287 [.ref 0, .ref 2, .ref 68, .int x3] [.int w, .int z0] (SH L, mi, ml, MR) d Q =
    if (z0 = w) then (X 241 1365 [.ref 0, .ref 2, .ref 68, .int x3] [] (SH L, mi, ml, MR) d Q) else (Q (some (.int 0)) (SH L, mi, ml, MR)) := by
  refine (R_icmp_eq (off := 1078) (t := 1365) (by decide +kernel) (by decide +kernel)).trans (ite_congr rfl (fun c0 => ?_) (fun c0 => ?_))
  · rfl
  · refine (R_iconst (n := 0) (v := 0) (by decide +kernel) (by decide +kernel)).trans ?_
    exact R_zreturn (by decide +kernel) (by decide +kernel) (by decide)
set_option maxRecDepth 4000 in
theorem s241_292 {L : Nat} {mi : Nat → Nat → Int32} {ml : Nat → Nat → Int64} {d : Nat} {Q : Option Value → xM → Prop} {x3 : Int32} (h1 : xin (x3 + 1) L = true) (h2 : xin (x3 + 2) L = true) : X 241 292 [.ref 0, .ref 2, .ref 68, .int x3] [] (SH L, mi, ml, MR) (d + 1) Q =
    Xm 101 [.ref 2, .int (mi 0 (x3 + 1).toNatClampNeg), .int (mi 0 (x3 + 2).toNatClampNeg)] (SH L, mi, ml, MR) d (fun v μ' => X 241 306 [.ref 0, .ref 2, .ref 68, .int x3] (v.toList ++ []) μ' (d + 1) Q) := by
  refine (R_pure0 (ins := .aload_n 1) (len := 1) (loc' := [.ref 0, .ref 2, .ref 68, .int x3]) (st' := [.ref 2]) (by decide +kernel) (fun _ => rfl)).trans ?_
  refine (R_pure0 (ins := .aload_n 0) (len := 1) (loc' := [.ref 0, .ref 2, .ref 68, .int x3]) (st' := [.ref 0, .ref 2]) (by decide +kernel) (fun _ => rfl)).trans ?_
  refine (R_pure0 (ins := .iload_n 3) (len := 1) (loc' := [.ref 0, .ref 2, .ref 68, .int x3]) (st' := [.int x3, .ref 0, .ref 2]) (by decide +kernel) (fun _ => rfl)).trans ?_
  refine (R_iconst (n := 1) (v := 1) (by decide +kernel) (by decide +kernel)).trans ?_
  refine (R_pure0 (ins := .iadd) (len := 1) (loc' := [.ref 0, .ref 2, .ref 68, .int x3]) (st' := [.int (x3 + 1), .ref 0, .ref 2]) (by decide +kernel) (fun _ => rfl)).trans ?_
  refine (R_iaload (kd := 105) (n := L) (by decide +kernel) rfl (by decide) (h1)).trans ?_
  refine (R_pure0 (ins := .aload_n 0) (len := 1) (loc' := [.ref 0, .ref 2, .ref 68, .int x3]) (st' := [.ref 0, .int (mi 0 (x3 + 1).toNatClampNeg), .ref 2]) (by decide +kernel) (fun _ => rfl)).trans ?_
  refine (R_pure0 (ins := .iload_n 3) (len := 1) (loc' := [.ref 0, .ref 2, .ref 68, .int x3]) (st' := [.int x3, .ref 0, .int (mi 0 (x3 + 1).toNatClampNeg), .ref 2]) (by decide +kernel) (fun _ => rfl)).trans ?_
  refine (R_iconst (n := 2) (v := 2) (by decide +kernel) (by decide +kernel)).trans ?_
  refine (R_pure0 (ins := .iadd) (len := 1) (loc' := [.ref 0, .ref 2, .ref 68, .int x3]) (st' := [.int (x3 + 2), .ref 0, .int (mi 0 (x3 + 1).toNatClampNeg), .ref 2]) (by decide +kernel) (fun _ => rfl)).trans ?_
  refine (R_iaload (kd := 105) (n := L) (by decide +kernel) rfl (by decide) (h2)).trans ?_
  refine (R_virt (i := 23) (f := 101) (kd := 0) (na := 2) (ml := 5) (ci := 9) (n := 12) (b := 2) (As := [.int (mi 0 (x3 + 1).toNatClampNeg), .int (mi 0 (x3 + 2).toNatClampNeg)]) (rest := []) (by decide +kernel) (by decide +kernel) (by decide) (by decide +kernel) rfl (by decide +kernel) rfl rfl (by decide +kernel) (Nat.le_of_ble_eq_true rfl)).trans ?_
  rfl
set_option maxRecDepth 4000 in
theorem s241_306 {L : Nat} {mi : Nat → Nat → Int32} {ml : Nat → Nat → Int64} {d : Nat} {Q : Option Value → xM → Prop} {x3 y : Int32} (h1 : xin (x3 + 1) L = true) (h2 : xin (x3 + 2) L = true) : X 241 306 [.ref 0, .ref 2, .ref 68, .int x3] [.int y] (SH L, mi, ml, MR) (d + 1) Q =
    Xm 159 [.ref 68, .int (mi 0 (x3 + 1).toNatClampNeg), .int (mi 0 (x3 + 2).toNatClampNeg)] (SH L, mi, ml, MR) d (fun v μ' => X 241 320 [.ref 0, .ref 2, .ref 68, .int x3] (v.toList ++ [.int y]) μ' (d + 1) Q) := by
  refine (R_pure0 (ins := .aload_n 2) (len := 1) (loc' := [.ref 0, .ref 2, .ref 68, .int x3]) (st' := [.ref 68, .int y]) (by decide +kernel) (fun _ => rfl)).trans ?_
  refine (R_pure0 (ins := .aload_n 0) (len := 1) (loc' := [.ref 0, .ref 2, .ref 68, .int x3]) (st' := [.ref 0, .ref 68, .int y]) (by decide +kernel) (fun _ => rfl)).trans ?_
  refine (R_pure0 (ins := .iload_n 3) (len := 1) (loc' := [.ref 0, .ref 2, .ref 68, .int x3]) (st' := [.int x3, .ref 0, .ref 68, .int y]) (by decide +kernel) (fun _ => rfl)).trans ?_
  refine (R_iconst (n := 1) (v := 1) (by decide +kernel) (by decide +kernel)).trans ?_
  refine (R_pure0 (ins := .iadd) (len := 1) (loc' := [.ref 0, .ref 2, .ref 68, .int x3]) (st' := [.int (x3 + 1), .ref 0, .ref 68, .int y]) (by decide +kernel) (fun _ => rfl)).trans ?_
  refine (R_iaload (kd := 105) (n := L) (by decide +kernel) rfl (by decide) (h1)).trans ?_
  refine (R_pure0 (ins := .aload_n 0) (len := 1) (loc' := [.ref 0, .ref 2, .ref 68, .int x3]) (st' := [.ref 0, .int (mi 0 (x3 + 1).toNatClampNeg), .ref 68, .int y]) (by decide +kernel) (fun _ => rfl)).trans ?_
  refine (R_pure0 (ins := .iload_n 3) (len := 1) (loc' := [.ref 0, .ref 2, .ref 68, .int x3]) (st' := [.int x3, .ref 0, .int (mi 0 (x3 + 1).toNatClampNeg), .ref 68, .int y]) (by decide +kernel) (fun _ => rfl)).trans ?_
  refine (R_iconst (n := 2) (v := 2) (by decide +kernel) (by decide +kernel)).trans ?_
  refine (R_pure0 (ins := .iadd) (len := 1) (loc' := [.ref 0, .ref 2, .ref 68, .int x3]) (st' := [.int (x3 + 2), .ref 0, .int (mi 0 (x3 + 1).toNatClampNeg), .ref 68, .int y]) (by decide +kernel) (fun _ => rfl)).trans ?_
  refine (R_iaload (kd := 105) (n := L) (by decide +kernel) rfl (by decide) (h2)).trans ?_
  refine (R_virt (i := 26) (f := 159) (kd := 0) (na := 2) (ml := 3) (ci := 10) (n := 33) (b := 68) (As := [.int (mi 0 (x3 + 1).toNatClampNeg), .int (mi 0 (x3 + 2).toNatClampNeg)]) (rest := [.int y]) (by decide +kernel) (by decide +kernel) (by decide) (by decide +kernel) rfl (by decide +kernel) rfl rfl (by decide +kernel) (Nat.le_of_ble_eq_true rfl)).trans ?_
  rfl
set_option maxRecDepth 4000 in
theorem s241_320 {L : Nat} {mi : Nat → Nat → Int32} {ml : Nat → Nat → Int64} {d : Nat} {Q : Option Value → xM → Prop} {w x3 z0 : Int32} : X 241 320 [.ref 0, .ref 2, .ref 68, .int x3] [.int w, .int z0] (SH L, mi, ml, MR) d Q =
    if (z0 = w) then (X 241 1365 [.ref 0, .ref 2, .ref 68, .int x3] [] (SH L, mi, ml, MR) d Q) else (Q (some (.int 0)) (SH L, mi, ml, MR)) := by
  refine (R_icmp_eq (off := 1045) (t := 1365) (by decide +kernel) (by decide +kernel)).trans (ite_congr rfl (fun c0 => ?_) (fun c0 => ?_))
  · rfl
  · refine (R_iconst (n := 0) (v := 0) (by decide +kernel) (by decide +kernel)).trans ?_
    exact R_zreturn (by decide +kernel) (by decide +kernel) (by decide)
set_option maxRecDepth 4000 in
theorem s241_325 {L : Nat} {mi : Nat → Nat → Int32} {ml : Nat → Nat → Int64} {d : Nat} {Q : Option Value → xM → Prop} {x3 : Int32} (h1 : xin (x3 + 1) L = true) : X 241 325 [.ref 0, .ref 2, .ref 68, .int x3] [] (SH L, mi, ml, MR) (d + 1) Q =
    Xm 102 [.ref 2, .int (mi 0 (x3 + 1).toNatClampNeg)] (SH L, mi, ml, MR) d (fun v μ' => X 241 334 [.ref 0, .ref 2, .ref 68, .int x3] (v.toList ++ []) μ' (d + 1) Q) := by
  refine (R_pure0 (ins := .aload_n 1) (len := 1) (loc' := [.ref 0, .ref 2, .ref 68, .int x3]) (st' := [.ref 2]) (by decide +kernel) (fun _ => rfl)).trans ?_
  refine (R_pure0 (ins := .aload_n 0) (len := 1) (loc' := [.ref 0, .ref 2, .ref 68, .int x3]) (st' := [.ref 0, .ref 2]) (by decide +kernel) (fun _ => rfl)).trans ?_
  refine (R_pure0 (ins := .iload_n 3) (len := 1) (loc' := [.ref 0, .ref 2, .ref 68, .int x3]) (st' := [.int x3, .ref 0, .ref 2]) (by decide +kernel) (fun _ => rfl)).trans ?_
  refine (R_iconst (n := 1) (v := 1) (by decide +kernel) (by decide +kernel)).trans ?_
  refine (R_pure0 (ins := .iadd) (len := 1) (loc' := [.ref 0, .ref 2, .ref 68, .int x3]) (st' := [.int (x3 + 1), .ref 0, .ref 2]) (by decide +kernel) (fun _ => rfl)).trans ?_
  refine (R_iaload (kd := 105) (n := L) (by decide +kernel) rfl (by decide) (h1)).trans ?_
  refine (R_virt (i := 27) (f := 102) (kd := 0) (na := 1) (ml := 3) (ci := 9) (n := 12) (b := 2) (As := [.int (mi 0 (x3 + 1).toNatClampNeg)]) (rest := []) (by decide +kernel) (by decide +kernel) (by decide) (by decide +kernel) rfl (by decide +kernel) rfl rfl (by decide +kernel) (Nat.le_of_ble_eq_true rfl)).trans ?_
  rfl
set_option maxRecDepth 4000 in
theorem s241_334 {L : Nat} {mi : Nat → Nat → Int32} {ml : Nat → Nat → Int64} {d : Nat} {Q : Option Value → xM → Prop} {x3 y : Int32} (h1 : xin (x3 + 1) L = true) : X 241 334 [.ref 0, .ref 2, .ref 68, .int x3] [.int y] (SH L, mi, ml, MR) (d + 1) Q =
    Xm 160 [.ref 68, .int (mi 0 (x3 + 1).toNatClampNeg)] (SH L, mi, ml, MR) d (fun v μ' => X 241 343 [.ref 0, .ref 2, .ref 68, .int x3] (v.toList ++ [.int y]) μ' (d + 1) Q) := by
  refine (R_pure0 (ins := .aload_n 2) (len := 1) (loc' := [.ref 0, .ref 2, .ref 68, .int x3]) (st' := [.ref 68, .int y]) (by decide +kernel) (fun _ => rfl)).trans ?_
  refine (R_pure0 (ins := .aload_n 0) (len := 1) (loc' := [.ref 0, .ref 2, .ref 68, .int x3]) (st' := [.ref 0, .ref 68, .int y]) (by decide +kernel) (fun _ => rfl)).trans ?_
  refine (R_pure0 (ins := .iload_n 3) (len := 1) (loc' := [.ref 0, .ref 2, .ref 68, .int x3]) (st' := [.int x3, .ref 0, .ref 68, .int y]) (by decide +kernel) (fun _ => rfl)).trans ?_
  refine (R_iconst (n := 1) (v := 1) (by decide +kernel) (by decide +kernel)).trans ?_
  refine (R_pure0 (ins := .iadd) (len := 1) (loc' := [.ref 0, .ref 2, .ref 68, .int x3]) (st' := [.int (x3 + 1), .ref 0, .ref 68, .int y]) (by decide +kernel) (fun _ => rfl)).trans ?_
  refine (R_iaload (kd := 105) (n := L) (by decide +kernel) rfl (by decide) (h1)).trans ?_
  refine (R_virt (i := 31) (f := 160) (kd := 0) (na := 1) (ml := 2) (ci := 10) (n := 33) (b := 68) (As := [.int (mi 0 (x3 + 1).toNatClampNeg)]) (rest := [.int y]) (by decide +kernel) (by decide +kernel) (by decide) (by decide +kernel) rfl (by decide +kernel) rfl rfl (by decide +kernel) (Nat.le_of_ble_eq_true rfl)).trans ?_
  rfl
set_option maxRecDepth 4000 in
theorem s241_343 {L : Nat} {mi : Nat → Nat → Int32} {ml : Nat → Nat → Int64} {d : Nat} {Q : Option Value → xM → Prop} {w x3 z0 : Int32} : X 241 343 [.ref 0, .ref 2, .ref 68, .int x3] [.int w, .int z0] (SH L, mi, ml, MR) d Q =
    if (z0 = w) then (X 241 1365 [.ref 0, .ref 2, .ref 68, .int x3] [] (SH L, mi, ml, MR) d Q) else (Q (some (.int 0)) (SH L, mi, ml, MR)) := by
  refine (R_icmp_eq (off := 1022) (t := 1365) (by decide +kernel) (by decide +kernel)).trans (ite_congr rfl (fun c0 => ?_) (fun c0 => ?_))
  · rfl
  · refine (R_iconst (n := 0) (v := 0) (by decide +kernel) (by decide +kernel)).trans ?_
    exact R_zreturn (by decide +kernel) (by decide +kernel) (by decide)
set_option maxRecDepth 4000 in
theorem s241_348 {L : Nat} {mi : Nat → Nat → Int32} {ml : Nat → Nat → Int64} {d : Nat} {Q : Option Value → xM → Prop} {x3 : Int32} (h1 : xin (x3 + 1) L = true) (h2 : xin (x3 + 2) L = true) (h3 : xin (x3 + 3) L = true) (h4 : xin (x3 + 4) L = true) (h5 : xin (x3 + 5) L = true) : X 241 348 [.ref 0, .ref 2, .ref 68, .int x3] [] (SH L, mi, ml, MR) (d + 1) Q =
    Xm 103 [.ref 2, .int (mi 0 (x3 + 1).toNatClampNeg), .int (mi 0 (x3 + 2).toNatClampNeg), .int (mi 0 (x3 + 3).toNatClampNeg), .int (mi 0 (x3 + 4).toNatClampNeg), .int (mi 0 (x3 + 5).toNatClampNeg)] (SH L, mi, ml, MR) d (fun v μ' => X 241 377 [.ref 0, .ref 2, .ref 68, .int x3] (v.toList ++ []) μ' (d + 1) Q) := by
  refine (R_pure0 (ins := .aload_n 1) (len := 1) (loc' := [.ref 0, .ref 2, .ref 68, .int x3]) (st' := [.ref 2]) (by decide +kernel) (fun _ => rfl)).trans ?_
  refine (R_pure0 (ins := .aload_n 0) (len := 1) (loc' := [.ref 0, .ref 2, .ref 68, .int x3]) (st' := [.ref 0, .ref 2]) (by decide +kernel) (fun _ => rfl)).trans ?_
  refine (R_pure0 (ins := .iload_n 3) (len := 1) (loc' := [.ref 0, .ref 2, .ref 68, .int x3]) (st' := [.int x3, .ref 0, .ref 2]) (by decide +kernel) (fun _ => rfl)).trans ?_
  refine (R_iconst (n := 1) (v := 1) (by decide +kernel) (by decide +kernel)).trans ?_
  refine (R_pure0 (ins := .iadd) (len := 1) (loc' := [.ref 0, .ref 2, .ref 68, .int x3]) (st' := [.int (x3 + 1), .ref 0, .ref 2]) (by decide +kernel) (fun _ => rfl)).trans ?_
  refine (R_iaload (kd := 105) (n := L) (by decide +kernel) rfl (by decide) (h1)).trans ?_
  refine (R_pure0 (ins := .aload_n 0) (len := 1) (loc' := [.ref 0, .ref 2, .ref 68, .int x3]) (st' := [.ref 0, .int (mi 0 (x3 + 1).toNatClampNeg), .ref 2]) (by decide +kernel) (fun _ => rfl)).trans ?_
  refine (R_pure0 (ins := .iload_n 3) (len := 1) (loc' := [.ref 0, .ref 2, .ref 68, .int x3]) (st' := [.int x3, .ref 0, .int (mi 0 (x3 + 1).toNatClampNeg), .ref 2]) (by decide +kernel) (fun _ => rfl)).trans ?_
  refine (R_iconst (n := 2) (v := 2) (by decide +kernel) (by decide +kernel)).trans ?_
  refine (R_pure0 (ins := .iadd) (len := 1) (loc' := [.ref 0, .ref 2, .ref 68, .int x3]) (st' := [.int (x3 + 2), .ref 0, .int (mi 0 (x3 + 1).toNatClampNeg), .ref 2]) (by decide +kernel) (fun _ => rfl)).trans ?_
  refine (R_iaload (kd := 105) (n := L) (by decide +kernel) rfl (by decide) (h2)).trans ?_
  refine (R_pure0 (ins := .aload_n 0) (len := 1) (loc' := [.ref 0, .ref 2, .ref 68, .int x3]) (st' := [.ref 0, .int (mi 0 (x3 + 2).toNatClampNeg), .int (mi 0 (x3 + 1).toNatClampNeg), .ref 2]) (by decide +kernel) (fun _ => rfl)).trans ?_
  refine (R_pure0 (ins := .iload_n 3) (len := 1) (loc' := [.ref 0, .ref 2, .ref 68, .int x3]) (st' := [.int x3, .ref 0, .int (mi 0 (x3 + 2).toNatClampNeg), .int (mi 0 (x3 + 1).toNatClampNeg), .ref 2]) (by decide +kernel) (fun _ => rfl)).trans ?_
  refine (R_iconst (n := 3) (v := 3) (by decide +kernel) (by decide +kernel)).trans ?_
  refine (R_pure0 (ins := .iadd) (len := 1) (loc' := [.ref 0, .ref 2, .ref 68, .int x3]) (st' := [.int (x3 + 3), .ref 0, .int (mi 0 (x3 + 2).toNatClampNeg), .int (mi 0 (x3 + 1).toNatClampNeg), .ref 2]) (by decide +kernel) (fun _ => rfl)).trans ?_
  refine (R_iaload (kd := 105) (n := L) (by decide +kernel) rfl (by decide) (h3)).trans ?_
  refine (R_pure0 (ins := .aload_n 0) (len := 1) (loc' := [.ref 0, .ref 2, .ref 68, .int x3]) (st' := [.ref 0, .int (mi 0 (x3 + 3).toNatClampNeg), .int (mi 0 (x3 + 2).toNatClampNeg), .int (mi 0 (x3 + 1).toNatClampNeg), .ref 2]) (by decide +kernel) (fun _ => rfl)).trans ?_
  refine (R_pure0 (ins := .iload_n 3) (len := 1) (loc' := [.ref 0, .ref 2, .ref 68, .int x3]) (st' := [.int x3, .ref 0, .int (mi 0 (x3 + 3).toNatClampNeg), .int (mi 0 (x3 + 2).toNatClampNeg), .int (mi 0 (x3 + 1).toNatClampNeg), .ref 2]) (by decide +kernel) (fun _ => rfl)).trans ?_
  refine (R_iconst (n := 4) (v := 4) (by decide +kernel) (by decide +kernel)).trans ?_
  refine (R_pure0 (ins := .iadd) (len := 1) (loc' := [.ref 0, .ref 2, .ref 68, .int x3]) (st' := [.int (x3 + 4), .ref 0, .int (mi 0 (x3 + 3).toNatClampNeg), .int (mi 0 (x3 + 2).toNatClampNeg), .int (mi 0 (x3 + 1).toNatClampNeg), .ref 2]) (by decide +kernel) (fun _ => rfl)).trans ?_
  refine (R_iaload (kd := 105) (n := L) (by decide +kernel) rfl (by decide) (h4)).trans ?_
  refine (R_pure0 (ins := .aload_n 0) (len := 1) (loc' := [.ref 0, .ref 2, .ref 68, .int x3]) (st' := [.ref 0, .int (mi 0 (x3 + 4).toNatClampNeg), .int (mi 0 (x3 + 3).toNatClampNeg), .int (mi 0 (x3 + 2).toNatClampNeg), .int (mi 0 (x3 + 1).toNatClampNeg), .ref 2]) (by decide +kernel) (fun _ => rfl)).trans ?_
  refine (R_pure0 (ins := .iload_n 3) (len := 1) (loc' := [.ref 0, .ref 2, .ref 68, .int x3]) (st' := [.int x3, .ref 0, .int (mi 0 (x3 + 4).toNatClampNeg), .int (mi 0 (x3 + 3).toNatClampNeg), .int (mi 0 (x3 + 2).toNatClampNeg), .int (mi 0 (x3 + 1).toNatClampNeg), .ref 2]) (by decide +kernel) (fun _ => rfl)).trans ?_
  refine (R_iconst (n := 5) (v := 5) (by decide +kernel) (by decide +kernel)).trans ?_
  refine (R_pure0 (ins := .iadd) (len := 1) (loc' := [.ref 0, .ref 2, .ref 68, .int x3]) (st' := [.int (x3 + 5), .ref 0, .int (mi 0 (x3 + 4).toNatClampNeg), .int (mi 0 (x3 + 3).toNatClampNeg), .int (mi 0 (x3 + 2).toNatClampNeg), .int (mi 0 (x3 + 1).toNatClampNeg), .ref 2]) (by decide +kernel) (fun _ => rfl)).trans ?_
  refine (R_iaload (kd := 105) (n := L) (by decide +kernel) rfl (by decide) (h5)).trans ?_
  refine (R_virt (i := 32) (f := 103) (kd := 0) (na := 5) (ml := 8) (ci := 9) (n := 12) (b := 2) (As := [.int (mi 0 (x3 + 1).toNatClampNeg), .int (mi 0 (x3 + 2).toNatClampNeg), .int (mi 0 (x3 + 3).toNatClampNeg), .int (mi 0 (x3 + 4).toNatClampNeg), .int (mi 0 (x3 + 5).toNatClampNeg)]) (rest := []) (by decide +kernel) (by decide +kernel) (by decide) (by decide +kernel) rfl (by decide +kernel) rfl rfl (by decide +kernel) (Nat.le_of_ble_eq_true rfl)).trans ?_
  rfl
set_option maxRecDepth 4000 in
theorem s241_377 {L : Nat} {mi : Nat → Nat → Int32} {ml : Nat → Nat → Int64} {d : Nat} {Q : Option Value → xM → Prop} {x3 y : Int32} (h1 : xin (x3 + 1) L = true) (h2 : xin (x3 + 2) L = true) (h3 : xin (x3 + 3) L = true) (h4 : xin (x3 + 4) L = true) (h5 : xin (x3 + 5) L = true) : X 241 377 [.ref 0, .ref 2, .ref 68, .int x3] [.int y] (SH L, mi, ml, MR) (d + 1) Q =
    Xm 161 [.ref 68, .int (mi 0 (x3 + 1).toNatClampNeg), .int (mi 0 (x3 + 2).toNatClampNeg), .int (mi 0 (x3 + 3).toNatClampNeg), .int (mi 0 (x3 + 4).toNatClampNeg), .int (mi 0 (x3 + 5).toNatClampNeg)] (SH L, mi, ml, MR) d (fun v μ' => X 241 406 [.ref 0, .ref 2, .ref 68, .int x3] (v.toList ++ [.int y]) μ' (d + 1) Q) := by
  refine (R_pure0 (ins := .aload_n 2) (len := 1) (loc' := [.ref 0, .ref 2, .ref 68, .int x3]) (st' := [.ref 68, .int y]) (by decide +kernel) (fun _ => rfl)).trans ?_
  refine (R_pure0 (ins := .aload_n 0) (len := 1) (loc' := [.ref 0, .ref 2, .ref 68, .int x3]) (st' := [.ref 0, .ref 68, .int y]) (by decide +kernel) (fun _ => rfl)).trans ?_
  refine (R_pure0 (ins := .iload_n 3) (len := 1) (loc' := [.ref 0, .ref 2, .ref 68, .int x3]) (st' := [.int x3, .ref 0, .ref 68, .int y]) (by decide +kernel) (fun _ => rfl)).trans ?_
  refine (R_iconst (n := 1) (v := 1) (by decide +kernel) (by decide +kernel)).trans ?_
  refine (R_pure0 (ins := .iadd) (len := 1) (loc' := [.ref 0, .ref 2, .ref 68, .int x3]) (st' := [.int (x3 + 1), .ref 0, .ref 68, .int y]) (by decide +kernel) (fun _ => rfl)).trans ?_
  refine (R_iaload (kd := 105) (n := L) (by decide +kernel) rfl (by decide) (h1)).trans ?_
  refine (R_pure0 (ins := .aload_n 0) (len := 1) (loc' := [.ref 0, .ref 2, .ref 68, .int x3]) (st' := [.ref 0, .int (mi 0 (x3 + 1).toNatClampNeg), .ref 68, .int y]) (by decide +kernel) (fun _ => rfl)).trans ?_
  refine (R_pure0 (ins := .iload_n 3) (len := 1) (loc' := [.ref 0, .ref 2, .ref 68, .int x3]) (st' := [.int x3, .ref 0, .int (mi 0 (x3 + 1).toNatClampNeg), .ref 68, .int y]) (by decide +kernel) (fun _ => rfl)).trans ?_
  refine (R_iconst (n := 2) (v := 2) (by decide +kernel) (by decide +kernel)).trans ?_
  refine (R_pure0 (ins := .iadd) (len := 1) (loc' := [.ref 0, .ref 2, .ref 68, .int x3]) (st' := [.int (x3 + 2), .ref 0, .int (mi 0 (x3 + 1).toNatClampNeg), .ref 68, .int y]) (by decide +kernel) (fun _ => rfl)).trans ?_
  refine (R_iaload (kd := 105) (n := L) (by decide +kernel) rfl (by decide) (h2)).trans ?_
  refine (R_pure0 (ins := .aload_n 0) (len := 1) (loc' := [.ref 0, .ref 2, .ref 68, .int x3]) (st' := [.ref 0, .int (mi 0 (x3 + 2).toNatClampNeg), .int (mi 0 (x3 + 1).toNatClampNeg), .ref 68, .int y]) (by decide +kernel) (fun _ => rfl)).trans ?_
  refine (R_pure0 (ins := .iload_n 3) (len := 1) (loc' := [.ref 0, .ref 2, .ref 68, .int x3]) (st' := [.int x3, .ref 0, .int (mi 0 (x3 + 2).toNatClampNeg), .int (mi 0 (x3 + 1).toNatClampNeg), .ref 68, .int y]) (by decide +kernel) (fun _ => rfl)).trans ?_
  refine (R_iconst (n := 3) (v := 3) (by decide +kernel) (by decide +kernel)).trans ?_
  refine (R_pure0 (ins := .iadd) (len := 1) (loc' := [.ref 0, .ref 2, .ref 68, .int x3]) (st' := [.int (x3 + 3), .ref 0, .int (mi 0 (x3 + 2).toNatClampNeg), .int (mi 0 (x3 + 1).toNatClampNeg), .ref 68, .int y]) (by decide +kernel) (fun _ => rfl)).trans ?_
  refine (R_iaload (kd := 105) (n := L) (by decide +kernel) rfl (by decide) (h3)).trans ?_
  refine (R_pure0 (ins := .aload_n 0) (len := 1) (loc' := [.ref 0, .ref 2, .ref 68, .int x3]) (st' := [.ref 0, .int (mi 0 (x3 + 3).toNatClampNeg), .int (mi 0 (x3 + 2).toNatClampNeg), .int (mi 0 (x3 + 1).toNatClampNeg), .ref 68, .int y]) (by decide +kernel) (fun _ => rfl)).trans ?_
  refine (R_pure0 (ins := .iload_n 3) (len := 1) (loc' := [.ref 0, .ref 2, .ref 68, .int x3]) (st' := [.int x3, .ref 0, .int (mi 0 (x3 + 3).toNatClampNeg), .int (mi 0 (x3 + 2).toNatClampNeg), .int (mi 0 (x3 + 1).toNatClampNeg), .ref 68, .int y]) (by decide +kernel) (fun _ => rfl)).trans ?_
  refine (R_iconst (n := 4) (v := 4) (by decide +kernel) (by decide +kernel)).trans ?_
  refine (R_pure0 (ins := .iadd) (len := 1) (loc' := [.ref 0, .ref 2, .ref 68, .int x3]) (st' := [.int (x3 + 4), .ref 0, .int (mi 0 (x3 + 3).toNatClampNeg), .int (mi 0 (x3 + 2).toNatClampNeg), .int (mi 0 (x3 + 1).toNatClampNeg), .ref 68, .int y]) (by decide +kernel) (fun _ => rfl)).trans ?_
  refine (R_iaload (kd := 105) (n := L) (by decide +kernel) rfl (by decide) (h4)).trans ?_
  refine (R_pure0 (ins := .aload_n 0) (len := 1) (loc' := [.ref 0, .ref 2, .ref 68, .int x3]) (st' := [.ref 0, .int (mi 0 (x3 + 4).toNatClampNeg), .int (mi 0 (x3 + 3).toNatClampNeg), .int (mi 0 (x3 + 2).toNatClampNeg), .int (mi 0 (x3 + 1).toNatClampNeg), .ref 68, .int y]) (by decide +kernel) (fun _ => rfl)).trans ?_
  refine (R_pure0 (ins := .iload_n 3) (len := 1) (loc' := [.ref 0, .ref 2, .ref 68, .int x3]) (st' := [.int x3, .ref 0, .int (mi 0 (x3 + 4).toNatClampNeg), .int (mi 0 (x3 + 3).toNatClampNeg), .int (mi 0 (x3 + 2).toNatClampNeg), .int (mi 0 (x3 + 1).toNatClampNeg), .ref 68, .int y]) (by decide +kernel) (fun _ => rfl)).trans ?_
  refine (R_iconst (n := 5) (v := 5) (by decide +kernel) (by decide +kernel)).trans ?_
  refine (R_pure0 (ins := .iadd) (len := 1) (loc' := [.ref 0, .ref 2, .ref 68, .int x3]) (st' := [.int (x3 + 5), .ref 0, .int (mi 0 (x3 + 4).toNatClampNeg), .int (mi 0 (x3 + 3).toNatClampNeg), .int (mi 0 (x3 + 2).toNatClampNeg), .int (mi 0 (x3 + 1).toNatClampNeg), .ref 68, .int y]) (by decide +kernel) (fun _ => rfl)).trans ?_
  refine (R_iaload (kd := 105) (n := L) (by decide +kernel) rfl (by decide) (h5)).trans ?_
  refine (R_virt (i := 36) (f := 161) (kd := 0) (na := 5) (ml := 8) (ci := 10) (n := 33) (b := 68) (As := [.int (mi 0 (x3 + 1).toNatClampNeg), .int (mi 0 (x3 + 2).toNatClampNeg), .int (mi 0 (x3 + 3).toNatClampNeg), .int (mi 0 (x3 + 4).toNatClampNeg), .int (mi 0 (x3 + 5).toNatClampNeg)]) (rest := [.int y]) (by decide +kernel) (by decide +kernel) (by decide) (by decide +kernel) rfl (by decide +kernel) rfl rfl (by decide +kernel) (Nat.le_of_ble_eq_true rfl)).trans ?_
  rfl
set_option maxRecDepth 4000 in
theorem s241_406 {L : Nat} {mi : Nat → Nat → Int32} {ml : Nat → Nat → Int64} {d : Nat} {Q : Option Value → xM → Prop} {w x3 z0 : Int32} : X 241 406 [.ref 0, .ref 2, .ref 68, .int x3] [.int w, .int z0] (SH L, mi, ml, MR) d Q =
    if (z0 = w) then (X 241 1365 [.ref 0, .ref 2, .ref 68, .int x3] [] (SH L, mi, ml, MR) d Q) else (Q (some (.int 0)) (SH L, mi, ml, MR)) := by
  refine (R_icmp_eq (off := 959) (t := 1365) (by decide +kernel) (by decide +kernel)).trans (ite_congr rfl (fun c0 => ?_) (fun c0 => ?_))
  · rfl
  · refine (R_iconst (n := 0) (v := 0) (by decide +kernel) (by decide +kernel)).trans ?_
    exact R_zreturn (by decide +kernel) (by decide +kernel) (by decide)
set_option maxRecDepth 4000 in
theorem s241_411 {L : Nat} {mi : Nat → Nat → Int32} {ml : Nat → Nat → Int64} {d : Nat} {Q : Option Value → xM → Prop} {x3 : Int32} (h1 : xin (x3 + 1) L = true) : X 241 411 [.ref 0, .ref 2, .ref 68, .int x3] [] (SH L, mi, ml, MR) (d + 1) Q =
    Xm 104 [.ref 2, .int (mi 0 (x3 + 1).toNatClampNeg)] (SH L, mi, ml, MR) d (fun v μ' => X 241 420 [.ref 0, .ref 2, .ref 68, .int x3] (v.toList ++ []) μ' (d + 1) Q) := by
  refine (R_pure0 (ins := .aload_n 1) (len := 1) (loc' := [.ref 0, .ref 2, .ref 68, .int x3]) (st' := [.ref 2]) (by decide +kernel) (fun _ => rfl)).trans ?_
  refine (R_pure0 (ins := .aload_n 0) (len := 1) (loc' := [.ref 0, .ref 2, .ref 68, .int x3]) (st' := [.ref 0, .ref 2]) (by decide +kernel) (fun _ => rfl)).trans ?_
  refine (R_pure0 (ins := .iload_n 3) (len := 1) (loc' := [.ref 0, .ref 2, .ref 68, .int x3]) (st' := [.int x3, .ref 0, .ref 2]) (by decide +kernel) (fun _ => rfl)).trans ?_
  refine (R_iconst (n := 1) (v := 1) (by decide +kernel) (by decide +kernel)).trans ?_
  refine (R_pure0 (ins := .iadd) (len := 1) (loc' := [.ref 0, .ref 2, .ref 68, .int x3]) (st' := [.int (x3 + 1), .ref 0, .ref 2]) (by decide +kernel) (fun _ => rfl)).trans ?_
  refine (R_iaload (kd := 105) (n := L) (by decide +kernel) rfl (by decide) (h1)).trans ?_
  refine (R_virt (i := 37) (f := 104) (kd := 0) (na := 1) (ml := 7) (ci := 9) (n := 12) (b := 2) (As := [.int (mi 0 (x3 + 1).toNatClampNeg)]) (rest := []) (by decide +kernel) (by decide +kernel) (by decide) (by decide +kernel) rfl (by decide +kernel) rfl rfl (by decide +kernel) (Nat.le_of_ble_eq_true rfl)).trans ?_
  rfl
set_option maxRecDepth 4000 in
theorem s241_420 {L : Nat} {mi : Nat → Nat → Int32} {ml : Nat → Nat → Int64} {d : Nat} {Q : Option Value → xM → Prop} {x3 y : Int32} (h1 : xin (x3 + 1) L = true) : X 241 420 [.ref 0, .ref 2, .ref 68, .int x3] [.int y] (SH L, mi, ml, MR) (d + 1) Q =
    Xm 162 [.ref 68, .int (mi 0 (x3 + 1).toNatClampNeg)] (SH L, mi, ml, MR) d (fun v μ' => X 241 429 [.ref 0, .ref 2, .ref 68, .int x3] (v.toList ++ [.int y]) μ' (d + 1) Q) := by
  refine (R_pure0 (ins := .aload_n 2) (len := 1) (loc' := [.ref 0, .ref 2, .ref 68, .int x3]) (st' := [.ref 68, .int y]) (by decide +kernel) (fun _ => rfl)).trans ?_
  refine (R_pure0 (ins := .aload_n 0) (len := 1) (loc' := [.ref 0, .ref 2, .ref 68, .int x3]) (st' := [.ref 0, .ref 68, .int y]) (by decide +kernel) (fun _ => rfl)).trans ?_
  refine (R_pure0 (ins := .iload_n 3) (len := 1) (loc' := [.ref 0, .ref 2, .ref 68, .int x3]) (st' := [.int x3, .ref 0, .ref 68, .int y]) (by decide +kernel) (fun _ => rfl)).trans ?_
  refine (R_iconst (n := 1) (v := 1) (by decide +kernel) (by decide +kernel)).trans ?_
  refine (R_pure0 (ins := .iadd) (len := 1) (loc' := [.ref 0, .ref 2, .ref 68, .int x3]) (st' := [.int (x3 + 1), .ref 0, .ref 68, .int y]) (by decide +kernel) (fun _ => rfl)).trans ?_
  refine (R_iaload (kd := 105) (n := L) (by decide +kernel) rfl (by decide) (h1)).trans ?_
  refine (R_virt (i := 40) (f := 162) (kd := 0) (na := 1) (ml := 5) (ci := 10) (n := 33) (b := 68) (As := [.int (mi 0 (x3 + 1).toNatClampNeg)]) (rest := [.int y]) (by decide +kernel) (by decide +kernel) (by decide) (by decide +kernel) rfl (by decide +kernel) rfl rfl (by decide +kernel) (Nat.le_of_ble_eq_true rfl)).trans ?_
  rfl
set_option maxRecDepth 4000 in
theorem s241_429 {L : Nat} {mi : Nat → Nat → Int32} {ml : Nat → Nat → Int64} {d : Nat} {Q : Option Value → xM → Prop} {w x3 z0 : Int32} : X 241 429 [.ref 0, .ref 2, .ref 68, .int x3] [.int w, .int z0] (SH L, mi, ml, MR) d Q =
    if (z0 = w) then (X 241 1365 [.ref 0, .ref 2, .ref 68, .int x3] [] (SH L, mi, ml, MR) d Q) else (Q (some (.int 0)) (SH L, mi, ml, MR)) := by
  refine (R_icmp_eq (off := 936) (t := 1365) (by decide +kernel) (by decide +kernel)).trans (ite_congr rfl (fun c0 => ?_) (fun c0 => ?_))
  · rfl
  · refine (R_iconst (n := 0) (v := 0) (by decide +kernel) (by decide +kernel)).trans ?_
    exact R_zreturn (by decide +kernel) (by decide +kernel) (by decide)
set_option maxRecDepth 4000 in
theorem s241_434 {L : Nat} {mi : Nat → Nat → Int32} {ml : Nat → Nat → Int64} {d : Nat} {Q : Option Value → xM → Prop} {x3 : Int32} (h1 : xin (x3 + 1) L = true) (h2 : xin (x3 + 2) L = true) : X 241 434 [.ref 0, .ref 2, .ref 68, .int x3] [] (SH L, mi, ml, MR) (d + 1) Q =
    Xm 105 [.ref 2, .int (mi 0 (x3 + 1).toNatClampNeg), .int (mi 0 (x3 + 2).toNatClampNeg)] (SH L, mi, ml, MR) d (fun v μ' => X 241 448 [.ref 0, .ref 2, .ref 68, .int x3] (v.toList ++ []) μ' (d + 1) Q) := by
  refine (R_pure0 (ins := .aload_n 1) (len := 1) (loc' := [.ref 0, .ref 2, .ref 68, .int x3]) (st' := [.ref 2]) (by decide +kernel) (fun _ => rfl)).trans ?_
  refine (R_pure0 (ins := .aload_n 0) (len := 1) (loc' := [.ref 0, .ref 2, .ref 68, .int x3]) (st' := [.ref 0, .ref 2]) (by decide +kernel) (fun _ => rfl)).trans ?_
  refine (R_pure0 (ins := .iload_n 3) (len := 1) (loc' := [.ref 0, .ref 2, .ref 68, .int x3]) (st' := [.int x3, .ref 0, .ref 2]) (by decide +kernel) (fun _ => rfl)).trans ?_
  refine (R_iconst (n := 1) (v := 1) (by decide +kernel) (by decide +kernel)).trans ?_
  refine (R_pure0 (ins := .iadd) (len := 1) (loc' := [.ref 0, .ref 2, .ref 68, .int x3]) (st' := [.int (x3 + 1), .ref 0, .ref 2]) (by decide +kernel) (fun _ => rfl)).trans ?_
  refine (R_iaload (kd := 105) (n := L) (by decide +kernel) rfl (by decide) (h1)).trans ?_
  refine (R_pure0 (ins := .aload_n 0) (len := 1) (loc' := [.ref 0, .ref 2, .ref 68, .int x3]) (st' := [.ref 0, .int (mi 0 (x3 + 1).toNatClampNeg), .ref 2]) (by decide +kernel) (fun _ => rfl)).trans ?_
  refine (R_pure0 (ins := .iload_n 3) (len := 1) (loc' := [.ref 0, .ref 2, .ref 68, .int x3]) (st' := [.int x3, .ref 0, .int (mi 0 (x3 + 1).toNatClampNeg), .ref 2]) (by decide +kernel) (fun _ => rfl)).trans ?_
  refine (R_iconst (n := 2) (v := 2) (by decide +kernel) (by decide +kernel)).trans ?_
  refine (R_pure0 (ins := .iadd) (len := 1) (loc' := [.ref 0, .ref 2, .ref 68, .int x3]) (st' := [.int (x3 + 2), .ref 0, .int (mi 0 (x3 + 1).toNatClampNeg), .ref 2]) (by decide +kernel) (fun _ => rfl)).trans ?_
  refine (R_iaload (kd := 105) (n := L) (by decide +kernel) rfl (by decide) (h2)).trans ?_
  refine (R_virt (i := 41) (f := 105) (kd := 0) (na := 2) (ml := 3) (ci := 9) (n := 12) (b := 2) (As := [.int (mi 0 (x3 + 1).toNatClampNeg), .int (mi 0 (x3 + 2).toNatClampNeg)]) (rest := []) (by decide +kernel) (by decide +kernel) (by decide) (by decide +kernel) rfl (by decide +kernel) rfl rfl (by decide +kernel) (Nat.le_of_ble_eq_true rfl)).trans ?_
  rfl
set_option maxRecDepth 4000 in
theorem s241_448 {L : Nat} {mi : Nat → Nat → Int32} {ml : Nat → Nat → Int64} {d : Nat} {Q : Option Value → xM → Prop} {x3 y : Int32} (h1 : xin (x3 + 1) L = true) (h2 : xin (x3 + 2) L = true) : X 241 448 [.ref 0, .ref 2, .ref 68, .int x3] [.int y] (SH L, mi, ml, MR) (d + 1) Q =
    Xm 163 [.ref 68, .int (mi 0 (x3 + 1).toNatClampNeg), .int (mi 0 (x3 + 2).toNatClampNeg)] (SH L, mi, ml, MR) d (fun v μ' => X 241 462 [.ref 0, .ref 2, .ref 68, .int x3] (v.toList ++ [.int y]) μ' (d + 1) Q) := by
  refine (R_pure0 (ins := .aload_n 2) (len := 1) (loc' := [.ref 0, .ref 2, .ref 68, .int x3]) (st' := [.ref 68, .int y]) (by decide +kernel) (fun _ => rfl)).trans ?_
  refine (R_pure0 (ins := .aload_n 0) (len := 1) (loc' := [.ref 0, .ref 2, .ref 68, .int x3]) (st' := [.ref 0, .ref 68, .int y]) (by decide +kernel) (fun _ => rfl)).trans ?_
  refine (R_pure0 (ins := .iload_n 3) (len := 1) (loc' := [.ref 0, .ref 2, .ref 68, .int x3]) (st' := [.int x3, .ref 0, .ref 68, .int y]) (by decide +kernel) (fun _ => rfl)).trans ?_
  refine (R_iconst (n := 1) (v := 1) (by decide +kernel) (by decide +kernel)).trans ?_
  refine (R_pure0 (ins := .iadd) (len := 1) (loc' := [.ref 0, .ref 2, .ref 68, .int x3]) (st' := [.int (x3 + 1), .ref 0, .ref 68, .int y]) (by decide +kernel) (fun _ => rfl)).trans ?_
  refine (R_iaload (kd := 105) (n := L) (by decide +kernel) rfl (by decide) (h1)).trans ?_
  refine (R_pure0 (ins := .aload_n 0) (len := 1) (loc' := [.ref 0, .ref 2, .ref 68, .int x3]) (st' := [.ref 0, .int (mi 0 (x3 + 1).toNatClampNeg), .ref 68, .int y]) (by decide +kernel) (fun _ => rfl)).trans ?_
  refine (R_pure0 (ins := .iload_n 3) (len := 1) (loc' := [.ref 0, .ref 2, .ref 68, .int x3]) (st' := [.int x3, .ref 0, .int (mi 0 (x3 + 1).toNatClampNeg), .ref 68, .int y]) (by decide +kernel) (fun _ => rfl)).trans ?_
  refine (R_iconst (n := 2) (v := 2) (by decide +kernel) (by decide +kernel)).trans ?_
  refine (R_pure0 (ins := .iadd) (len := 1) (loc' := [.ref 0, .ref 2, .ref 68, .int x3]) (st' := [.int (x3 + 2), .ref 0, .int (mi 0 (x3 + 1).toNatClampNeg), .ref 68, .int y]) (by decide +kernel) (fun _ => rfl)).trans ?_
  refine (R_iaload (kd := 105) (n := L) (by decide +kernel) rfl (by decide) (h2)).trans ?_
  refine (R_virt (i := 44) (f := 163) (kd := 0) (na := 2) (ml := 4) (ci := 10) (n := 33) (b := 68) (As := [.int (mi 0 (x3 + 1).toNatClampNeg), .int (mi 0 (x3 + 2).toNatClampNeg)]) (rest := [.int y]) (by decide +kernel) (by decide +kernel) (by decide) (by decide +kernel) rfl (by decide +kernel) rfl rfl (by decide +kernel) (Nat.le_of_ble_eq_true rfl)).trans ?_
  rfl
set_option maxRecDepth 4000 in
theorem s241_462 {L : Nat} {mi : Nat → Nat → Int32} {ml : Nat → Nat → Int64} {d : Nat} {Q : Option Value → xM → Prop} {w x3 z0 : Int32} : X 241 462 [.ref 0, .ref 2, .ref 68, .int x3] [.int w, .int z0] (SH L, mi, ml, MR) d Q =
    if (z0 = w) then (X 241 1365 [.ref 0, .ref 2, .ref 68, .int x3] [] (SH L, mi, ml, MR) d Q) else (Q (some (.int 0)) (SH L, mi, ml, MR)) := by
  refine (R_icmp_eq (off := 903) (t := 1365) (by decide +kernel) (by decide +kernel)).trans (ite_congr rfl (fun c0 => ?_) (fun c0 => ?_))
  · rfl
  · refine (R_iconst (n := 0) (v := 0) (by decide +kernel) (by decide +kernel)).trans ?_
    exact R_zreturn (by decide +kernel) (by decide +kernel) (by decide)
set_option maxRecDepth 4000 in
theorem s241_467 {L : Nat} {mi : Nat → Nat → Int32} {ml : Nat → Nat → Int64} {d : Nat} {Q : Option Value → xM → Prop} {x3 : Int32} (h1 : xin (x3 + 1) L = true) (h2 : xin (x3 + 2) L = true) (h3 : xin (x3 + 3) L = true) : X 241 467 [.ref 0, .ref 2, .ref 68, .int x3] [] (SH L, mi, ml, MR) (d + 1) Q =
    Xm 106 [.ref 2, .int (mi 0 (x3 + 1).toNatClampNeg), .int (mi 0 (x3 + 2).toNatClampNeg), .int (mi 0 (x3 + 3).toNatClampNeg)] (SH L, mi, ml, MR) d (fun v μ' => X 241 486 [.ref 0, .ref 2, .ref 68, .int x3] (v.toList ++ []) μ' (d + 1) Q) := by
  refine (R_pure0 (ins := .aload_n 1) (len := 1) (loc' := [.ref 0, .ref 2, .ref 68, .int x3]) (st' := [.ref 2]) (by decide +kernel) (fun _ => rfl)).trans ?_
  refine (R_pure0 (ins := .aload_n 0) (len := 1) (loc' := [.ref 0, .ref 2, .ref 68, .int x3]) (st' := [.ref 0, .ref 2]) (by decide +kernel) (fun _ => rfl)).trans ?_
  refine (R_pure0 (ins := .iload_n 3) (len := 1) (loc' := [.ref 0, .ref 2, .ref 68, .int x3]) (st' := [.int x3, .ref 0, .ref 2]) (by decide +kernel) (fun _ => rfl)).trans ?_
  refine (R_iconst (n := 1) (v := 1) (by decide +kernel) (by decide +kernel)).trans ?_
  refine (R_pure0 (ins := .iadd) (len := 1) (loc' := [.ref 0, .ref 2, .ref 68, .int x3]) (st' := [.int (x3 + 1), .ref 0, .ref 2]) (by decide +kernel) (fun _ => rfl)).trans ?_
  refine (R_iaload (kd := 105) (n := L) (by decide +kernel) rfl (by decide) (h1)).trans ?_
  refine (R_pure0 (ins := .aload_n 0) (len := 1) (loc' := [.ref 0, .ref 2, .ref 68, .int x3]) (st' := [.ref 0, .int (mi 0 (x3 + 1).toNatClampNeg), .ref 2]) (by decide +kernel) (fun _ => rfl)).trans ?_
  refine (R_pure0 (ins := .iload_n 3) (len := 1) (loc' := [.ref 0, .ref 2, .ref 68, .int x3]) (st' := [.int x3, .ref 0, .int (mi 0 (x3 + 1).toNatClampNeg), .ref 2]) (by decide +kernel) (fun _ => rfl)).trans ?_
  refine (R_iconst (n := 2) (v := 2) (by decide +kernel) (by decide +kernel)).trans ?_
  refine (R_pure0 (ins := .iadd) (len := 1) (loc' := [.ref 0, .ref 2, .ref 68, .int x3]) (st' := [.int (x3 + 2), .ref 0, .int (mi 0 (x3 + 1).toNatClampNeg), .ref 2]) (by decide +kernel) (fun _ => rfl)).trans ?_
  refine (R_iaload (kd := 105) (n := L) (by decide +kernel) rfl (by decide) (h2)).trans ?_
  refine (R_pure0 (ins := .aload_n 0) (len := 1) (loc' := [.ref 0, .ref 2, .ref 68, .int x3]) (st' := [.ref 0, .int (mi 0 (x3 + 2).toNatClampNeg), .int (mi 0 (x3 + 1).toNatClampNeg), .ref 2]) (by decide +kernel) (fun _ => rfl)).trans ?_
  refine (R_pure0 (ins := .iload_n 3) (len := 1) (loc' := [.ref 0, .ref 2, .ref 68, .int x3]) (st' := [.int x3, .ref 0, .int (mi 0 (x3 + 2).toNatClampNeg), .int (mi 0 (x3 + 1).toNatClampNeg), .ref 2]) (by decide +kernel) (fun _ => rfl)).trans ?_
  refine (R_iconst (n := 3) (v := 3) (by decide +kernel) (by decide +kernel)).trans ?_
  refine (R_pure0 (ins := .iadd) (len := 1) (loc' := [.ref 0, .ref 2, .ref 68, .int x3]) (st' := [.int (x3 + 3), .ref 0, .int (mi 0 (x3 + 2).toNatClampNeg), .int (mi 0 (x3 + 1).toNatClampNeg), .ref 2]) (by decide +kernel) (fun _ => rfl)).trans ?_
  refine (R_iaload (kd := 105) (n := L) (by decide +kernel) rfl (by decide) (h3)).trans ?_
  refine (R_virt (i := 45) (f := 106) (kd := 0) (na := 3) (ml := 7) (ci := 9) (n := 12) (b := 2) (As := [.int (mi 0 (x3 + 1).toNatClampNeg), .int (mi 0 (x3 + 2).toNatClampNeg), .int (mi 0 (x3 + 3).toNatClampNeg)]) (rest := []) (by decide +kernel) (by decide +kernel) (by decide) (by decide +kernel) rfl (by decide +kernel) rfl rfl (by decide +kernel) (Nat.le_of_ble_eq_true rfl)).trans ?_
  rfl
set_option maxRecDepth 4000 in
theorem s241_486 {L : Nat} {mi : Nat → Nat → Int32} {ml : Nat → Nat → Int64} {d : Nat} {Q : Option Value → xM → Prop} {x3 y : Int32} (h1 : xin (x3 + 1) L = true) (h2 : xin (x3 + 2) L = true) (h3 : xin (x3 + 3) L = true) : X 241 486 [.ref 0, .ref 2, .ref 68, .int x3] [.int y] (SH L, mi, ml, MR) (d + 1) Q =
    Xm 164 [.ref 68, .int (mi 0 (x3 + 1).toNatClampNeg), .int (mi 0 (x3 + 2).toNatClampNeg), .int (mi 0 (x3 + 3).toNatClampNeg)] (SH L, mi, ml, MR) d (fun v μ' => X 241 505 [.ref 0, .ref 2, .ref 68, .int x3] (v.toList ++ [.int y]) μ' (d + 1) Q) := by
  refine (R_pure0 (ins := .aload_n 2) (len := 1) (loc' := [.ref 0, .ref 2, .ref 68, .int x3]) (st' := [.ref 68, .int y]) (by decide +kernel) (fun _ => rfl)).trans ?_
  refine (R_pure0 (ins := .aload_n 0) (len := 1) (loc' := [.ref 0, .ref 2, .ref 68, .int x3]) (st' := [.ref 0, .ref 68, .int y]) (by decide +kernel) (fun _ => rfl)).trans ?_
  refine (R_pure0 (ins := .iload_n 3) (len := 1) (loc' := [.ref 0, .ref 2, .ref 68, .int x3]) (st' := [.int x3, .ref 0, .ref 68, .int y]) (by decide +kernel) (fun _ => rfl)).trans ?_
  refine (R_iconst (n := 1) (v := 1) (by decide +kernel) (by decide +kernel)).trans ?_
  refine (R_pure0 (ins := .iadd) (len := 1) (loc' := [.ref 0, .ref 2, .ref 68, .int x3]) (st' := [.int (x3 + 1), .ref 0, .ref 68, .int y]) (by decide +kernel) (fun _ => rfl)).trans ?_
  refine (R_iaload (kd := 105) (n := L) (by decide +kernel) rfl (by decide) (h1)).trans ?_
  refine (R_pure0 (ins := .aload_n 0) (len := 1) (loc' := [.ref 0, .ref 2, .ref 68, .int x3]) (st' := [.ref 0, .int (mi 0 (x3 + 1).toNatClampNeg), .ref 68, .int y]) (by decide +kernel) (fun _ => rfl)).trans ?_
  refine (R_pure0 (ins := .iload_n 3) (len := 1) (loc' := [.ref 0, .ref 2, .ref 68, .int x3]) (st' := [.int x3, .ref 0, .int (mi 0 (x3 + 1).toNatClampNeg), .ref 68, .int y]) (by decide +kernel) (fun _ => rfl)).trans ?_
  refine (R_iconst (n := 2) (v := 2) (by decide +kernel) (by decide +kernel)).trans ?_
  refine (R_pure0 (ins := .iadd) (len := 1) (loc' := [.ref 0, .ref 2, .ref 68, .int x3]) (st' := [.int (x3 + 2), .ref 0, .int (mi 0 (x3 + 1).toNatClampNeg), .ref 68, .int y]) (by decide +kernel) (fun _ => rfl)).trans ?_
  refine (R_iaload (kd := 105) (n := L) (by decide +kernel) rfl (by decide) (h2)).trans ?_
  refine (R_pure0 (ins := .aload_n 0) (len := 1) (loc' := [.ref 0, .ref 2, .ref 68, .int x3]) (st' := [.ref 0, .int (mi 0 (x3 + 2).toNatClampNeg), .int (mi 0 (x3 + 1).toNatClampNeg), .ref 68, .int y]) (by decide +kernel) (fun _ => rfl)).trans ?_
  refine (R_pure0 (ins := .iload_n 3) (len := 1) (loc' := [.ref 0, .ref 2, .ref 68, .int x3]) (st' := [.int x3, .ref 0, .int (mi 0 (x3 + 2).toNatClampNeg), .int (mi 0 (x3 + 1).toNatClampNeg), .ref 68, .int y]) (by decide +kernel) (fun _ => rfl)).trans ?_
  refine (R_iconst (n := 3) (v := 3) (by decide +kernel) (by decide +kernel)).trans ?_
  refine (R_pure0 (ins := .iadd) (len := 1) (loc' := [.ref 0, .ref 2, .ref 68, .int x3]) (st' := [.int (x3 + 3), .ref 0, .int (mi 0 (x3 + 2).toNatClampNeg), .int (mi 0 (x3 + 1).toNatClampNeg), .ref 68, .int y]) (by decide +kernel) (fun _ => rfl)).trans ?_
  refine (R_iaload (kd := 105) (n := L) (by decide +kernel) rfl (by decide) (h3)).trans ?_
  refine (R_virt (i := 48) (f := 164) (kd := 0) (na := 3) (ml := 5) (ci := 10) (n := 33) (b := 68) (As := [.int (mi 0 (x3 + 1).toNatClampNeg), .int (mi 0 (x3 + 2).toNatClampNeg), .int (mi 0 (x3 + 3).toNatClampNeg)]) (rest := [.int y]) (by decide +kernel) (by decide +kernel) (by decide) (by decide +kernel) rfl (by decide +kernel) rfl rfl (by decide +kernel) (Nat.le_of_ble_eq_true rfl)).trans ?_
  rfl
set_option maxRecDepth 4000 in
theorem s241_505 {L : Nat} {mi : Nat → Nat → Int32} {ml : Nat → Nat → Int64} {d : Nat} {Q : Option Value → xM → Prop} {w x3 z0 : Int32} : X 241 505 [.ref 0, .ref 2, .ref 68, .int x3] [.int w, .int z0] (SH L, mi, ml, MR) d Q =
    if (z0 = w) then (X 241 1365 [.ref 0, .ref 2, .ref 68, .int x3] [] (SH L, mi, ml, MR) d Q) else (Q (some (.int 0)) (SH L, mi, ml, MR)) := by
  refine (R_icmp_eq (off := 860) (t := 1365) (by decide +kernel) (by decide +kernel)).trans (ite_congr rfl (fun c0 => ?_) (fun c0 => ?_))
  · rfl
  · refine (R_iconst (n := 0) (v := 0) (by decide +kernel) (by decide +kernel)).trans ?_
    exact R_zreturn (by decide +kernel) (by decide +kernel) (by decide)
set_option maxRecDepth 4000 in
theorem s241_510 {L : Nat} {mi : Nat → Nat → Int32} {ml : Nat → Nat → Int64} {d : Nat} {Q : Option Value → xM → Prop} {x3 : Int32} (h1 : xin (x3 + 1) L = true) : X 241 510 [.ref 0, .ref 2, .ref 68, .int x3] [] (SH L, mi, ml, MR) (d + 1) Q =
    Xm 107 [.ref 2, .int (mi 0 (x3 + 1).toNatClampNeg)] (SH L, mi, ml, MR) d (fun v μ' => X 241 519 [.ref 0, .ref 2, .ref 68, .int x3] (v.toList ++ []) μ' (d + 1) Q) := by
  refine (R_pure0 (ins := .aload_n 1) (len := 1) (loc' := [.ref 0, .ref 2, .ref 68, .int x3]) (st' := [.ref 2]) (by decide +kernel) (fun _ => rfl)).trans ?_
  refine (R_pure0 (ins := .aload_n 0) (len := 1) (loc' := [.ref 0, .ref 2, .ref 68, .int x3]) (st' := [.ref 0, .ref 2]) (by decide +kernel) (fun _ => rfl)).trans ?_
  refine (R_pure0 (ins := .iload_n 3) (len := 1) (loc' := [.ref 0, .ref 2, .ref 68, .int x3]) (st' := [.int x3, .ref 0, .ref 2]) (by decide +kernel) (fun _ => rfl)).trans ?_
  refine (R_iconst (n := 1) (v := 1) (by decide +kernel) (by decide +kernel)).trans ?_
  refine (R_pure0 (ins := .iadd) (len := 1) (loc' := [.ref 0, .ref 2, .ref 68, .int x3]) (st' := [.int (x3 + 1), .ref 0, .ref 2]) (by decide +kernel) (fun _ => rfl)).trans ?_
  refine (R_iaload (kd := 105) (n := L) (by decide +kernel) rfl (by decide) (h1)).trans ?_
  refine (R_virt (i := 49) (f := 107) (kd := 0) (na := 1) (ml := 3) (ci := 9) (n := 12) (b := 2) (As := [.int (mi 0 (x3 + 1).toNatClampNeg)]) (rest := []) (by decide +kernel) (by decide +kernel) (by decide) (by decide +kernel) rfl (by decide +kernel) rfl rfl (by decide +kernel) (Nat.le_of_ble_eq_true rfl)).trans ?_
  rfl
set_option maxRecDepth 4000 in
theorem s241_519 {L : Nat} {mi : Nat → Nat → Int32} {ml : Nat → Nat → Int64} {d : Nat} {Q : Option Value → xM → Prop} {x3 y : Int32} (h1 : xin (x3 + 1) L = true) : X 241 519 [.ref 0, .ref 2, .ref 68, .int x3] [.int y] (SH L, mi, ml, MR) (d + 1) Q =
    Xm 170 [.ref 68, .int (mi 0 (x3 + 1).toNatClampNeg)] (SH L, mi, ml, MR) d (fun v μ' => X 241 528 [.ref 0, .ref 2, .ref 68, .int x3] (v.toList ++ [.int y]) μ' (d + 1) Q) := by
  refine (R_pure0 (ins := .aload_n 2) (len := 1) (loc' := [.ref 0, .ref 2, .ref 68, .int x3]) (st' := [.ref 68, .int y]) (by decide +kernel) (fun _ => rfl)).trans ?_
  refine (R_pure0 (ins := .aload_n 0) (len := 1) (loc' := [.ref 0, .ref 2, .ref 68, .int x3]) (st' := [.ref 0, .ref 68, .int y]) (by decide +kernel) (fun _ => rfl)).trans ?_
  refine (R_pure0 (ins := .iload_n 3) (len := 1) (loc' := [.ref 0, .ref 2, .ref 68, .int x3]) (st' := [.int x3, .ref 0, .ref 68, .int y]) (by decide +kernel) (fun _ => rfl)).trans ?_
  refine (R_iconst (n := 1) (v := 1) (by decide +kernel) (by decide +kernel)).trans ?_
  refine (R_pure0 (ins := .iadd) (len := 1) (loc' := [.ref 0, .ref 2, .ref 68, .int x3]) (st' := [.int (x3 + 1), .ref 0, .ref 68, .int y]) (by decide +kernel) (fun _ => rfl)).trans ?_
  refine (R_iaload (kd := 105) (n := L) (by decide +kernel) rfl (by decide) (h1)).trans ?_
  refine (R_virt (i := 52) (f := 170) (kd := 0) (na := 1) (ml := 2) (ci := 10) (n := 33) (b := 68) (As := [.int (mi 0 (x3 + 1).toNatClampNeg)]) (rest := [.int y]) (by decide +kernel) (by decide +kernel) (by decide) (by decide +kernel) rfl (by decide +kernel) rfl rfl (by decide +kernel) (Nat.le_of_ble_eq_true rfl)).trans ?_
  rfl
set_option maxRecDepth 4000 in
theorem s241_528 {L : Nat} {mi : Nat → Nat → Int32} {ml : Nat → Nat → Int64} {d : Nat} {Q : Option Value → xM → Prop} {w x3 z0 : Int32} : X 241 528 [.ref 0, .ref 2, .ref 68, .int x3] [.int w, .int z0] (SH L, mi, ml, MR) d Q =
    if (z0 = w) then (X 241 1365 [.ref 0, .ref 2, .ref 68, .int x3] [] (SH L, mi, ml, MR) d Q) else (Q (some (.int 0)) (SH L, mi, ml, MR)) := by
  refine (R_icmp_eq (off := 837) (t := 1365) (by decide +kernel) (by decide +kernel)).trans (ite_congr rfl (fun c0 => ?_) (fun c0 => ?_))
  · rfl
  · refine (R_iconst (n := 0) (v := 0) (by decide +kernel) (by decide +kernel)).trans ?_
    exact R_zreturn (by decide +kernel) (by decide +kernel) (by decide)
set_option maxRecDepth 4000 in
theorem s241_533 {L : Nat} {mi : Nat → Nat → Int32} {ml : Nat → Nat → Int64} {d : Nat} {Q : Option Value → xM → Prop} {x3 : Int32} (h1 : xin (x3 + 1) L = true) : X 241 533 [.ref 0, .ref 2, .ref 68, .int x3] [] (SH L, mi, ml, MR) (d + 1) Q =
    Xm 108 [.ref 2, .int (mi 0 (x3 + 1).toNatClampNeg)] (SH L, mi, ml, MR) d (fun v μ' => X 241 542 [.ref 0, .ref 2, .ref 68, .int x3] (v.toList ++ []) μ' (d + 1) Q) := by
  refine (R_pure0 (ins := .aload_n 1) (len := 1) (loc' := [.ref 0, .ref 2, .ref 68, .int x3]) (st' := [.ref 2]) (by decide +kernel) (fun _ => rfl)).trans ?_
  refine (R_pure0 (ins := .aload_n 0) (len := 1) (loc' := [.ref 0, .ref 2, .ref 68, .int x3]) (st' := [.ref 0, .ref 2]) (by decide +kernel) (fun _ => rfl)).trans ?_
  refine (R_pure0 (ins := .iload_n 3) (len := 1) (loc' := [.ref 0, .ref 2, .ref 68, .int x3]) (st' := [.int x3, .ref 0, .ref 2]) (by decide +kernel) (fun _ => rfl)).trans ?_
  refine (R_iconst (n := 1) (v := 1) (by decide +kernel) (by decide +kernel)).trans ?_
  refine (R_pure0 (ins := .iadd) (len := 1) (loc' := [.ref 0, .ref 2, .ref 68, .int x3]) (st' := [.int (x3 + 1), .ref 0, .ref 2]) (by decide +kernel) (fun _ => rfl)).trans ?_
  refine (R_iaload (kd := 105) (n := L) (by decide +kernel) rfl (by decide) (h1)).trans ?_
  refine (R_virt (i := 53) (f := 108) (kd := 0) (na := 1) (ml := 3) (ci := 9) (n := 12) (b := 2) (As := [.int (mi 0 (x3 + 1).toNatClampNeg)]) (rest := []) (by decide +kernel) (by decide +kernel) (by decide) (by decide +kernel) rfl (by decide +kernel) rfl rfl (by decide +kernel) (Nat.le_of_ble_eq_true rfl)).trans ?_
  rfl
set_option maxRecDepth 4000 in
theorem s241_542 {L : Nat} {mi : Nat → Nat → Int32} {ml : Nat → Nat → Int64} {d : Nat} {Q : Option Value → xM → Prop} {x3 y : Int32} (h1 : xin (x3 + 1) L = true) : X 241 542 [.ref 0, .ref 2, .ref 68, .int x3] [.int y] (SH L, mi, ml, MR) (d + 1) Q =
    Xm 171 [.ref 68, .int (mi 0 (x3 + 1).toNatClampNeg)] (SH L, mi, ml, MR) d (fun v μ' => X 241 551 [.ref 0, .ref 2, .ref 68, .int x3] (v.toList ++ [.int y]) μ' (d + 1) Q) := by
  refine (R_pure0 (ins := .aload_n 2) (len := 1) (loc' := [.ref 0, .ref 2, .ref 68, .int x3]) (st' := [.ref 68, .int y]) (by decide +kernel) (fun _ => rfl)).trans ?_
  refine (R_pure0 (ins := .aload_n 0) (len := 1) (loc' := [.ref 0, .ref 2, .ref 68, .int x3]) (st' := [.ref 0, .ref 68, .int y]) (by decide +kernel) (fun _ => rfl)).trans ?_
  refine (R_pure0 (ins := .iload_n 3) (len := 1) (loc' := [.ref 0, .ref 2, .ref 68, .int x3]) (st' := [.int x3, .ref 0, .ref 68, .int y]) (by decide +kernel) (fun _ => rfl)).trans ?_
  refine (R_iconst (n := 1) (v := 1) (by decide +kernel) (by decide +kernel)).trans ?_
  refine (R_pure0 (ins := .iadd) (len := 1) (loc' := [.ref 0, .ref 2, .ref 68, .int x3]) (st' := [.int (x3 + 1), .ref 0, .ref 68, .int y]) (by decide +kernel) (fun _ => rfl)).trans ?_
  refine (R_iaload (kd := 105) (n := L) (by decide +kernel) rfl (by decide) (h1)).trans ?_
  refine (R_virt (i := 56) (f := 171) (kd := 0) (na := 1) (ml := 3) (ci := 10) (n := 33) (b := 68) (As := [.int (mi 0 (x3 + 1).toNatClampNeg)]) (rest := [.int y]) (by decide +kernel) (by decide +kernel) (by decide) (by decide +kernel) rfl (by decide +kernel) rfl rfl (by decide +kernel) (Nat.le_of_ble_eq_true rfl)).trans ?_
  rfl
set_option maxRecDepth 4000 in
theorem s241_551 {L : Nat} {mi : Nat → Nat → Int32} {ml : Nat → Nat → Int64} {d : Nat} {Q : Option Value → xM → Prop} {w x3 z0 : Int32} : X 241 551 [.ref 0, .ref 2, .ref 68, .int x3] [.int w, .int z0] (SH L, mi, ml, MR) d Q =
    if (z0 = w) then (X 241 1365 [.ref 0, .ref 2, .ref 68, .int x3] [] (SH L, mi, ml, MR) d Q) else (Q (some (.int 0)) (SH L, mi, ml, MR)) := by
  refine (R_icmp_eq (off := 814) (t := 1365) (by decide +kernel) (by decide +kernel)).trans (ite_congr rfl (fun c0 => ?_) (fun c0 => ?_))
  · rfl
  · refine (R_iconst (n := 0) (v := 0) (by decide +kernel) (by decide +kernel)).trans ?_
    exact R_zreturn (by decide +kernel) (by decide +kernel) (by decide)
set_option maxRecDepth 4000 in
theorem s241_556 {L : Nat} {mi : Nat → Nat → Int32} {ml : Nat → Nat → Int64} {d : Nat} {Q : Option Value → xM → Prop} {x3 : Int32} (h1 : xin (x3 + 1) L = true) (h2 : xin (x3 + 2) L = true) : X 241 556 [.ref 0, .ref 2, .ref 68, .int x3] [] (SH L, mi, ml, MR) (d + 1) Q =
    Xm 109 [.ref 2, .int (mi 0 (x3 + 1).toNatClampNeg), .int (mi 0 (x3 + 2).toNatClampNeg)] (SH L, mi, ml, MR) d (fun v μ' => X 241 570 [.ref 0, .ref 2, .ref 68, .int x3] (v.toList ++ []) μ' (d + 1) Q) := by
  refine (R_pure0 (ins := .aload_n 1) (len := 1) (loc' := [.ref 0, .ref 2, .ref 68, .int x3]) (st' := [.ref 2]) (by decide +kernel) (fun _ => rfl)).trans ?_
  refine (R_pure0 (ins := .aload_n 0) (len := 1) (loc' := [.ref 0, .ref 2, .ref 68, .int x3]) (st' := [.ref 0, .ref 2]) (by decide +kernel) (fun _ => rfl)).trans ?_
  refine (R_pure0 (ins := .iload_n 3) (len := 1) (loc' := [.ref 0, .ref 2, .ref 68, .int x3]) (st' := [.int x3, .ref 0, .ref 2]) (by decide +kernel) (fun _ => rfl)).trans ?_
  refine (R_iconst (n := 1) (v := 1) (by decide +kernel) (by decide +kernel)).trans ?_
  refine (R_pure0 (ins := .iadd) (len := 1) (loc' := [.ref 0, .ref 2, .ref 68, .int x3]) (st' := [.int (x3 + 1), .ref 0, .ref 2]) (by decide +kernel) (fun _ => rfl)).trans ?_
  refine (R_iaload (kd := 105) (n := L) (by decide +kernel) rfl (by decide) (h1)).trans ?_
  refine (R_pure0 (ins := .aload_n 0) (len := 1) (loc' := [.ref 0, .ref 2, .ref 68, .int x3]) (st' := [.ref 0, .int (mi 0 (x3 + 1).toNatClampNeg), .ref 2]) (by decide +kernel) (fun _ => rfl)).trans ?_
  refine (R_pure0 (ins := .iload_n 3) (len := 1) (loc' := [.ref 0, .ref 2, .ref 68, .int x3]) (st' := [.int x3, .ref 0, .int (mi 0 (x3 + 1).toNatClampNeg), .ref 2]) (by decide +kernel) (fun _ => rfl)).trans ?_
  refine (R_iconst (n := 2) (v := 2) (by decide +kernel) (by decide +kernel)).trans ?_
  refine (R_pure0 (ins := .iadd) (len := 1) (loc' := [.ref 0, .ref 2, .ref 68, .int x3]) (st' := [.int (x3 + 2), .ref 0, .int (mi 0 (x3 + 1).toNatClampNeg), .ref 2]) (by decide +kernel) (fun _ => rfl)).trans ?_
  refine (R_iaload (kd := 105) (n := L) (by decide +kernel) rfl (by decide) (h2)).trans ?_
  refine (R_virt (i := 57) (f := 109) (kd := 0) (na := 2) (ml := 4) (ci := 9) (n := 12) (b := 2) (As := [.int (mi 0 (x3 + 1).toNatClampNeg), .int (mi 0 (x3 + 2).toNatClampNeg)]) (rest := []) (by decide +kernel) (by decide +kernel) (by decide) (by decide +kernel) rfl (by decide +kernel) rfl rfl (by decide +kernel) (Nat.le_of_ble_eq_true rfl)).trans ?_
  rfl
set_option maxRecDepth 4000 in
theorem s241_570 {L : Nat} {mi : Nat → Nat → Int32} {ml : Nat → Nat → Int64} {d : Nat} {Q : Option Value → xM → Prop} {x3 y : Int32} (h1 : xin (x3 + 1) L = true) (h2 : xin (x3 + 2) L = true) : X 241 570 [.ref 0, .ref 2, .ref 68, .int x3] [.int y] (SH L, mi, ml, MR) (d + 1) Q =
    Xm 185 [.ref 68, .int (mi 0 (x3 + 1).toNatClampNeg), .int (mi 0 (x3 + 2).toNatClampNeg)] (SH L, mi, ml, MR) d (fun v μ' => X 241 584 [.ref 0, .ref 2, .ref 68, .int x3] (v.toList ++ [.int y]) μ' (d + 1) Q) := by
  refine (R_pure0 (ins := .aload_n 2) (len := 1) (loc' := [.ref 0, .ref 2, .ref 68, .int x3]) (st' := [.ref 68, .int y]) (by decide +kernel) (fun _ => rfl)).trans ?_
  refine (R_pure0 (ins := .aload_n 0) (len := 1) (loc' := [.ref 0, .ref 2, .ref 68, .int x3]) (st' := [.ref 0, .ref 68, .int y]) (by decide +kernel) (fun _ => rfl)).trans ?_
  refine (R_pure0 (ins := .iload_n 3) (len := 1) (loc' := [.ref 0, .ref 2, .ref 68, .int x3]) (st' := [.int x3, .ref 0, .ref 68, .int y]) (by decide +kernel) (fun _ => rfl)).trans ?_
  refine (R_iconst (n := 1) (v := 1) (by decide +kernel) (by decide +kernel)).trans ?_
  refine (R_pure0 (ins := .iadd) (len := 1) (loc' := [.ref 0, .ref 2, .ref 68, .int x3]) (st' := [.int (x3 + 1), .ref 0, .ref 68, .int y]) (by decide +kernel) (fun _ => rfl)).trans ?_
  refine (R_iaload (kd := 105) (n := L) (by decide +kernel) rfl (by decide) (h1)).trans ?_
  refine (R_pure0 (ins := .aload_n 0) (len := 1) (loc' := [.ref 0, .ref 2, .ref 68, .int x3]) (st' := [.ref 0, .int (mi 0 (x3 + 1).toNatClampNeg), .ref 68, .int y]) (by decide +kernel) (fun _ => rfl)).trans ?_
  refine (R_pure0 (ins := .iload_n 3) (len := 1) (loc' := [.ref 0, .ref 2, .ref 68, .int x3]) (st' := [.int x3, .ref 0, .int (mi 0 (x3 + 1).toNatClampNeg), .ref 68, .int y]) (by decide +kernel) (fun _ => rfl)).trans ?_
  refine (R_iconst (n := 2) (v := 2) (by decide +kernel) (by decide +kernel)).trans ?_
  refine (R_pure0 (ins := .iadd) (len := 1) (loc' := [.ref 0, .ref 2, .ref 68, .int x3]) (st' := [.int (x3 + 2), .ref 0, .int (mi 0 (x3 + 1).toNatClampNeg), .ref 68, .int y]) (by decide +kernel) (fun _ => rfl)).trans ?_
  refine (R_iaload (kd := 105) (n := L) (by decide +kernel) rfl (by decide) (h2)).trans ?_
  refine (R_virt (i := 60) (f := 185) (kd := 0) (na := 2) (ml := 3) (ci := 10) (n := 33) (b := 68) (As := [.int (mi 0 (x3 + 1).toNatClampNeg), .int (mi 0 (x3 + 2).toNatClampNeg)]) (rest := [.int y]) (by decide +kernel) (by decide +kernel) (by decide) (by decide +kernel) rfl (by decide +kernel) rfl rfl (by decide +kernel) (Nat.le_of_ble_eq_true rfl)).trans ?_
  rfl
set_option maxRecDepth 4000 in
theorem s241_584 {L : Nat} {mi : Nat → Nat → Int32} {ml : Nat → Nat → Int64} {d : Nat} {Q : Option Value → xM → Prop} {w x3 z0 : Int32} : X 241 584 [.ref 0, .ref 2, .ref 68, .int x3] [.int w, .int z0] (SH L, mi, ml, MR) d Q =
    if (z0 = w) then (X 241 1365 [.ref 0, .ref 2, .ref 68, .int x3] [] (SH L, mi, ml, MR) d Q) else (Q (some (.int 0)) (SH L, mi, ml, MR)) := by
  refine (R_icmp_eq (off := 781) (t := 1365) (by decide +kernel) (by decide +kernel)).trans (ite_congr rfl (fun c0 => ?_) (fun c0 => ?_))
  · rfl
  · refine (R_iconst (n := 0) (v := 0) (by decide +kernel) (by decide +kernel)).trans ?_
    exact R_zreturn (by decide +kernel) (by decide +kernel) (by decide)
set_option maxRecDepth 4000 in
theorem s241_589 {L : Nat} {mi : Nat → Nat → Int32} {ml : Nat → Nat → Int64} {d : Nat} {Q : Option Value → xM → Prop} {x3 : Int32} (h1 : xin (x3 + 1) L = true) (h2 : xin (x3 + 2) L = true) : X 241 589 [.ref 0, .ref 2, .ref 68, .int x3] [] (SH L, mi, ml, MR) (d + 1) Q =
    Xm 110 [.ref 2, .int (mi 0 (x3 + 1).toNatClampNeg), .int (mi 0 (x3 + 2).toNatClampNeg)] (SH L, mi, ml, MR) d (fun v μ' => X 241 603 [.ref 0, .ref 2, .ref 68, .int x3] (v.toList ++ []) μ' (d + 1) Q) := by
  refine (R_pure0 (ins := .aload_n 1) (len := 1) (loc' := [.ref 0, .ref 2, .ref 68, .int x3]) (st' := [.ref 2]) (by decide +kernel) (fun _ => rfl)).trans ?_
  refine (R_pure0 (ins := .aload_n 0) (len := 1) (loc' := [.ref 0, .ref 2, .ref 68, .int x3]) (st' := [.ref 0, .ref 2]) (by decide +kernel) (fun _ => rfl)).trans ?_
  refine (R_pure0 (ins := .iload_n 3) (len := 1) (loc' := [.ref 0, .ref 2, .ref 68, .int x3]) (st' := [.int x3, .ref 0, .ref 2]) (by decide +kernel) (fun _ => rfl)).trans ?_
  refine (R_iconst (n := 1) (v := 1) (by decide +kernel) (by decide +kernel)).trans ?_
  refine (R_pure0 (ins := .iadd) (len := 1) (loc' := [.ref 0, .ref 2, .ref 68, .int x3]) (st' := [.int (x3 + 1), .ref 0, .ref 2]) (by decide +kernel) (fun _ => rfl)).trans ?_
  refine (R_iaload (kd := 105) (n := L) (by decide +kernel) rfl (by decide) (h1)).trans ?_
  refine (R_pure0 (ins := .aload_n 0) (len := 1) (loc' := [.ref 0, .ref 2, .ref 68, .int x3]) (st' := [.ref 0, .int (mi 0 (x3 + 1).toNatClampNeg), .ref 2]) (by decide +kernel) (fun _ => rfl)).trans ?_
  refine (R_pure0 (ins := .iload_n 3) (len := 1) (loc' := [.ref 0, .ref 2, .ref 68, .int x3]) (st' := [.int x3, .ref 0, .int (mi 0 (x3 + 1).toNatClampNeg), .ref 2]) (by decide +kernel) (fun _ => rfl)).trans ?_
  refine (R_iconst (n := 2) (v := 2) (by decide +kernel) (by decide +kernel)).trans ?_
  refine (R_pure0 (ins := .iadd) (len := 1) (loc' := [.ref 0, .ref 2, .ref 68, .int x3]) (st' := [.int (x3 + 2), .ref 0, .int (mi 0 (x3 + 1).toNatClampNeg), .ref 2]) (by decide +kernel) (fun _ => rfl)).trans ?_
  refine (R_iaload (kd := 105) (n := L) (by decide +kernel) rfl (by decide) (h2)).trans ?_
  refine (R_virt (i := 61) (f := 110) (kd := 0) (na := 2) (ml := 4) (ci := 9) (n := 12) (b := 2) (As := [.int (mi 0 (x3 + 1).toNatClampNeg), .int (mi 0 (x3 + 2).toNatClampNeg)]) (rest := []) (by decide +kernel) (by decide +kernel) (by decide) (by decide +kernel) rfl (by decide +kernel) rfl rfl (by decide +kernel) (Nat.le_of_ble_eq_true rfl)).trans ?_
  rfl
set_option maxRecDepth 4000 in
theorem s241_603 {L : Nat} {mi : Nat → Nat → Int32} {ml : Nat → Nat → Int64} {d : Nat} {Q : Option Value → xM → Prop} {x3 y : Int32} (h1 : xin (x3 + 1) L = true) (h2 : xin (x3 + 2) L = true) : X 241 603 [.ref 0, .ref 2, .ref 68, .int x3] [.int y] (SH L, mi, ml, MR) (d + 1) Q =
    Xm 186 [.ref 68, .int (mi 0 (x3 + 1).toNatClampNeg), .int (mi 0 (x3 + 2).toNatClampNeg)] (SH L, mi, ml, MR) d (fun v μ' => X 241 617 [.ref 0, .ref 2, .ref 68, .int x3] (v.toList ++ [.int y]) μ' (d + 1) Q) := by
  refine (R_pure0 (ins := .aload_n 2) (len := 1) (loc' := [.ref 0, .ref 2, .ref 68, .int x3]) (st' := [.ref 68, .int y]) (by decide +kernel) (fun _ => rfl)).trans ?_
  refine (R_pure0 (ins := .aload_n 0) (len := 1) (loc' := [.ref 0, .ref 2, .ref 68, .int x3]) (st' := [.ref 0, .ref 68, .int y]) (by decide +kernel) (fun _ => rfl)).trans ?_
  refine (R_pure0 (ins := .iload_n 3) (len := 1) (loc' := [.ref 0, .ref 2, .ref 68, .int x3]) (st' := [.int x3, .ref 0, .ref 68, .int y]) (by decide +kernel) (fun _ => rfl)).trans ?_
  refine (R_iconst (n := 1) (v := 1) (by decide +kernel) (by decide +kernel)).trans ?_
  refine (R_pure0 (ins := .iadd) (len := 1) (loc' := [.ref 0, .ref 2, .ref 68, .int x3]) (st' := [.int (x3 + 1), .ref 0, .ref 68, .int y]) (by decide +kernel) (fun _ => rfl)).trans ?_
  refine (R_iaload (kd := 105) (n := L) (by decide +kernel) rfl (by decide) (h1)).trans ?_
  refine (R_pure0 (ins := .aload_n 0) (len := 1) (loc' := [.ref 0, .ref 2, .ref 68, .int x3]) (st' := [.ref 0, .int (mi 0 (x3 + 1).toNatClampNeg), .ref 68, .int y]) (by decide +kernel) (fun _ => rfl)).trans ?_
  refine (R_pure0 (ins := .iload_n 3) (len := 1) (loc' := [.ref 0, .ref 2, .ref 68, .int x3]) (st' := [.int x3, .ref 0, .int (mi 0 (x3 + 1).toNatClampNeg), .ref 68, .int y]) (by decide +kernel) (fun _ => rfl)).trans ?_
  refine (R_iconst (n := 2) (v := 2) (by decide +kernel) (by decide +kernel)).trans ?_
  refine (R_pure0 (ins := .iadd) (len := 1) (loc' := [.ref 0, .ref 2, .ref 68, .int x3]) (st' := [.int (x3 + 2), .ref 0, .int (mi 0 (x3 + 1).toNatClampNeg), .ref 68, .int y]) (by decide +kernel) (fun _ => rfl)).trans ?_
  refine (R_iaload (kd := 105) (n := L) (by decide +kernel) rfl (by decide) (h2)).trans ?_
  refine (R_virt (i := 64) (f := 186) (kd := 0) (na := 2) (ml := 5) (ci := 10) (n := 33) (b := 68) (As := [.int (mi 0 (x3 + 1).toNatClampNeg), .int (mi 0 (x3 + 2).toNatClampNeg)]) (rest := [.int y]) (by decide +kernel) (by decide +kernel) (by decide) (by decide +kernel) rfl (by decide +kernel) rfl rfl (by decide +kernel) (Nat.le_of_ble_eq_true rfl)).trans ?_
  rfl
set_option maxRecDepth 4000 in
theorem s241_617 {L : Nat} {mi : Nat → Nat → Int32} {ml : Nat → Nat → Int64} {d : Nat} {Q : Option Value → xM → Prop} {w x3 z0 : Int32} : X 241 617 [.ref 0, .ref 2, .ref 68, .int x3] [.int w, .int z0] (SH L, mi, ml, MR) d Q =
    if (z0 = w) then (X 241 1365 [.ref 0, .ref 2, .ref 68, .int x3] [] (SH L, mi, ml, MR) d Q) else (Q (some (.int 0)) (SH L, mi, ml, MR)) := by
  refine (R_icmp_eq (off := 748) (t := 1365) (by decide +kernel) (by decide +kernel)).trans (ite_congr rfl (fun c0 => ?_) (fun c0 => ?_))
  · rfl
  · refine (R_iconst (n := 0) (v := 0) (by decide +kernel) (by decide +kernel)).trans ?_
    exact R_zreturn (by decide +kernel) (by decide +kernel) (by decide)
set_option maxRecDepth 4000 in
theorem s241_622 {L : Nat} {mi : Nat → Nat → Int32} {ml : Nat → Nat → Int64} {d : Nat} {Q : Option Value → xM → Prop} {x3 : Int32} (h1 : xin (x3 + 1) L = true) (h2 : xin (x3 + 2) L = true) : X 241 622 [.ref 0, .ref 2, .ref 68, .int x3] [] (SH L, mi, ml, MR) (d + 1) Q =
    Xm 111 [.ref 2, .int (mi 0 (x3 + 1).toNatClampNeg), .int (mi 0 (x3 + 2).toNatClampNeg)] (SH L, mi, ml, MR) d (fun v μ' => X 241 636 [.ref 0, .ref 2, .ref 68, .int x3] (v.toList ++ []) μ' (d + 1) Q) := by
  refine (R_pure0 (ins := .aload_n 1) (len := 1) (loc' := [.ref 0, .ref 2, .ref 68, .int x3]) (st' := [.ref 2]) (by decide +kernel) (fun _ => rfl)).trans ?_
  refine (R_pure0 (ins := .aload_n 0) (len := 1) (loc' := [.ref 0, .ref 2, .ref 68, .int x3]) (st' := [.ref 0, .ref 2]) (by decide +kernel) (fun _ => rfl)).trans ?_
  refine (R_pure0 (ins := .iload_n 3) (len := 1) (loc' := [.ref 0, .ref 2, .ref 68, .int x3]) (st' := [.int x3, .ref 0, .ref 2]) (by decide +kernel) (fun _ => rfl)).trans ?_
  refine (R_iconst (n := 1) (v := 1) (by decide +kernel) (by decide +kernel)).trans ?_
  refine (R_pure0 (ins := .iadd) (len := 1) (loc' := [.ref 0, .ref 2, .ref 68, .int x3]) (st' := [.int (x3 + 1), .ref 0, .ref 2]) (by decide +kernel) (fun _ => rfl)).trans ?_
  refine (R_iaload (kd := 105) (n := L) (by decide +kernel) rfl (by decide) (h1)).trans ?_
  refine (R_pure0 (ins := .aload_n 0) (len := 1) (loc' := [.ref 0, .ref 2, .ref 68, .int x3]) (st' := [.ref 0, .int (mi 0 (x3 + 1).toNatClampNeg), .ref 2]) (by decide +kernel) (fun _ => rfl)).trans ?_
  refine (R_pure0 (ins := .iload_n 3) (len := 1) (loc' := [.ref 0, .ref 2, .ref 68, .int x3]) (st' := [.int x3, .ref 0, .int (mi 0 (x3 + 1).toNatClampNeg), .ref 2]) (by decide +kernel) (fun _ => rfl)).trans ?_
  refine (R_iconst (n := 2) (v := 2) (by decide +kernel) (by decide +kernel)).trans ?_
  refine (R_pure0 (ins := .iadd) (len := 1) (loc' := [.ref 0, .ref 2, .ref 68, .int x3]) (st' := [.int (x3 + 2), .ref 0, .int (mi 0 (x3 + 1).toNatClampNeg), .ref 2]) (by decide +kernel) (fun _ => rfl)).trans ?_
  refine (R_iaload (kd := 105) (n := L) (by decide +kernel) rfl (by decide) (h2)).trans ?_
  refine (R_virt (i := 65) (f := 111) (kd := 0) (na := 2) (ml := 4) (ci := 9) (n := 12) (b := 2) (As := [.int (mi 0 (x3 + 1).toNatClampNeg), .int (mi 0 (x3 + 2).toNatClampNeg)]) (rest := []) (by decide +kernel) (by decide +kernel) (by decide) (by decide +kernel) rfl (by decide +kernel) rfl rfl (by decide +kernel) (Nat.le_of_ble_eq_true rfl)).trans ?_
  rfl
set_option maxRecDepth 4000 in
theorem s241_636 {L : Nat} {mi : Nat → Nat → Int32} {ml : Nat → Nat → Int64} {d : Nat} {Q : Option Value → xM → Prop} {x3 y : Int32} (h1 : xin (x3 + 1) L = true) (h2 : xin (x3 + 2) L = true) : X 241 636 [.ref 0, .ref 2, .ref 68, .int x3] [.int y] (SH L, mi, ml, MR) (d + 1) Q =
    Xm 187 [.ref 68, .int (mi 0 (x3 + 1).toNatClampNeg), .int (mi 0 (x3 + 2).toNatClampNeg)] (SH L, mi, ml, MR) d (fun v μ' => X 241 650 [.ref 0, .ref 2, .ref 68, .int x3] (v.toList ++ [.int y]) μ' (d + 1) Q) := by
  refine (R_pure0 (ins := .aload_n 2) (len := 1) (loc' := [.ref 0, .ref 2, .ref 68, .int x3]) (st' := [.ref 68, .int y]) (by decide +kernel) (fun _ => rfl)).trans ?_
  refine (R_pure0 (ins := .aload_n 0) (len := 1) (loc' := [.ref 0, .ref 2, .ref 68, .int x3]) (st' := [.ref 0, .ref 68, .int y]) (by decide +kernel) (fun _ => rfl)).trans ?_
  refine (R_pure0 (ins := .iload_n 3) (len := 1) (loc' := [.ref 0, .ref 2, .ref 68, .int x3]) (st' := [.int x3, .ref 0, .ref 68, .int y]) (by decide +kernel) (fun _ => rfl)).trans ?_
  refine (R_iconst (n := 1) (v := 1) (by decide +kernel) (by decide +kernel)).trans ?_
  refine (R_pure0 (ins := .iadd) (len := 1) (loc' := [.ref 0, .ref 2, .ref 68, .int x3]) (st' := [.int (x3 + 1), .ref 0, .ref 68, .int y]) (by decide +kernel) (fun _ => rfl)).trans ?_
  refine (R_iaload (kd := 105) (n := L) (by decide +kernel) rfl (by decide) (h1)).trans ?_
  refine (R_pure0 (ins := .aload_n 0) (len := 1) (loc' := [.ref 0, .ref 2, .ref 68, .int x3]) (st' := [.ref 0, .int (mi 0 (x3 + 1).toNatClampNeg), .ref 68, .int y]) (by decide +kernel) (fun _ => rfl)).trans ?_
  refine (R_pure0 (ins := .iload_n 3) (len := 1) (loc' := [.ref 0, .ref 2, .ref 68, .int x3]) (st' := [.int x3, .ref 0, .int (mi 0 (x3 + 1).toNatClampNeg), .ref 68, .int y]) (by decide +kernel) (fun _ => rfl)).trans ?_
  refine (R_iconst (n := 2) (v := 2) (by decide +kernel) (by decide +kernel)).trans ?_
  refine (R_pure0 (ins := .iadd) (len := 1) (loc' := [.ref 0, .ref 2, .ref 68, .int x3]) (st' := [.int (x3 + 2), .ref 0, .int (mi 0 (x3 + 1).toNatClampNeg), .ref 68, .int y]) (by decide +kernel) (fun _ => rfl)).trans ?_
  refine (R_iaload (kd := 105) (n := L) (by decide +kernel) rfl (by decide) (h2)).trans ?_
  refine (R_virt (i := 68) (f := 187) (kd := 0) (na := 2) (ml := 3) (ci := 10) (n := 33) (b := 68) (As := [.int (mi 0 (x3 + 1).toNatClampNeg), .int (mi 0 (x3 + 2).toNatClampNeg)]) (rest := [.int y]) (by decide +kernel) (by decide +kernel) (by decide) (by decide +kernel) rfl (by decide +kernel) rfl rfl (by decide +kernel) (Nat.le_of_ble_eq_true rfl)).trans ?_
  rfl
set_option maxRecDepth 4000 in
theorem s241_650 {L : Nat} {mi : Nat → Nat → Int32} {ml : Nat → Nat → Int64} {d : Nat} {Q : Option Value → xM → Prop} {w x3 z0 : Int32} : X 241 650 [.ref 0, .ref 2, .ref 68, .int x3] [.int w, .int z0] (SH L, mi, ml, MR) d Q =
    if (z0 = w) then (X 241 1365 [.ref 0, .ref 2, .ref 68, .int x3] [] (SH L, mi, ml, MR) d Q) else (Q (some (.int 0)) (SH L, mi, ml, MR)) := by
  refine (R_icmp_eq (off := 715) (t := 1365) (by decide +kernel) (by decide +kernel)).trans (ite_congr rfl (fun c0 => ?_) (fun c0 => ?_))
  · rfl
  · refine (R_iconst (n := 0) (v := 0) (by decide +kernel) (by decide +kernel)).trans ?_
    exact R_zreturn (by decide +kernel) (by decide +kernel) (by decide)
set_option maxRecDepth 4000 in
theorem s241_655 {L : Nat} {mi : Nat → Nat → Int32} {ml : Nat → Nat → Int64} {d : Nat} {Q : Option Value → xM → Prop} {x3 : Int32} : X 241 655 [.ref 0, .ref 2, .ref 68, .int x3] [] (SH L, mi, ml, MR) (d + 1) Q =
    Xm 112 [.ref 2] (SH L, mi, ml, MR) d (fun v μ' => X 241 659 [.ref 0, .ref 2, .ref 68, .int x3] (v.toList ++ []) μ' (d + 1) Q) := by
  refine (R_pure0 (ins := .aload_n 1) (len := 1) (loc' := [.ref 0, .ref 2, .ref 68, .int x3]) (st' := [.ref 2]) (by decide +kernel) (fun _ => rfl)).trans ?_
  refine (R_virt (i := 69) (f := 112) (kd := 0) (na := 0) (ml := 1) (ci := 9) (n := 12) (b := 2) (As := []) (rest := []) (by decide +kernel) (by decide +kernel) (by decide) (by decide +kernel) rfl (by decide +kernel) rfl rfl (by decide +kernel) (Nat.le_of_ble_eq_true rfl)).trans ?_
  rfl
set_option maxRecDepth 4000 in
theorem s241_659 {L : Nat} {mi : Nat → Nat → Int32} {ml : Nat → Nat → Int64} {d : Nat} {Q : Option Value → xM → Prop} {x3 y : Int32} : X 241 659 [.ref 0, .ref 2, .ref 68, .int x3] [.int y] (SH L, mi, ml, MR) (d + 1) Q =
    Xm 190 [.ref 68] (SH L, mi, ml, MR) d (fun v μ' => X 241 663 [.ref 0, .ref 2, .ref 68, .int x3] (v.toList ++ [.int y]) μ' (d + 1) Q) := by
  refine (R_pure0 (ins := .aload_n 2) (len := 1) (loc' := [.ref 0, .ref 2, .ref 68, .int x3]) (st' := [.ref 68, .int y]) (by decide +kernel) (fun _ => rfl)).trans ?_
  refine (R_virt (i := 73) (f := 190) (kd := 0) (na := 0) (ml := 1) (ci := 10) (n := 33) (b := 68) (As := []) (rest := [.int y]) (by decide +kernel) (by decide +kernel) (by decide) (by decide +kernel) rfl (by decide +kernel) rfl rfl (by decide +kernel) (Nat.le_of_ble_eq_true rfl)).trans ?_
  rfl
set_option maxRecDepth 4000 in
theorem s241_663 {L : Nat} {mi : Nat → Nat → Int32} {ml : Nat → Nat → Int64} {d : Nat} {Q : Option Value → xM → Prop} {w x3 z0 : Int32} : X 241 663 [.ref 0, .ref 2, .ref 68, .int x3] [.int w, .int z0] (SH L, mi, ml, MR) d Q =
    if (z0 = w) then (X 241 1365 [.ref 0, .ref 2, .ref 68, .int x3] [] (SH L, mi, ml, MR) d Q) else (Q (some (.int 0)) (SH L, mi, ml, MR)) := by
  refine (R_icmp_eq (off := 702) (t := 1365) (by decide +kernel) (by decide +kernel)).trans (ite_congr rfl (fun c0 => ?_) (fun c0 => ?_))
  · rfl
  · refine (R_iconst (n := 0) (v := 0) (by decide +kernel) (by decide +kernel)).trans ?_
    exact R_zreturn (by decide +kernel) (by decide +kernel) (by decide)
set_option maxRecDepth 4000 in
theorem s241_668 {L : Nat} {mi : Nat → Nat → Int32} {ml : Nat → Nat → Int64} {d : Nat} {Q : Option Value → xM → Prop} {x3 : Int32} (h1 : xin (x3 + 1) L = true) : X 241 668 [.ref 0, .ref 2, .ref 68, .int x3] [] (SH L, mi, ml, MR) (d + 1) Q =
    Xm 113 [.ref 2, .int (mi 0 (x3 + 1).toNatClampNeg)] (SH L, mi, ml, MR) d (fun v μ' => X 241 677 [.ref 0, .ref 2, .ref 68, .int x3] (v.toList ++ []) μ' (d + 1) Q) := by
  refine (R_pure0 (ins := .aload_n 1) (len := 1) (loc' := [.ref 0, .ref 2, .ref 68, .int x3]) (st' := [.ref 2]) (by decide +kernel) (fun _ => rfl)).trans ?_
  refine (R_pure0 (ins := .aload_n 0) (len := 1) (loc' := [.ref 0, .ref 2, .ref 68, .int x3]) (st' := [.ref 0, .ref 2]) (by decide +kernel) (fun _ => rfl)).trans ?_
  refine (R_pure0 (ins := .iload_n 3) (len := 1) (loc' := [.ref 0, .ref 2, .ref 68, .int x3]) (st' := [.int x3, .ref 0, .ref 2]) (by decide +kernel) (fun _ => rfl)).trans ?_
  refine (R_iconst (n := 1) (v := 1) (by decide +kernel) (by decide +kernel)).trans ?_
  refine (R_pure0 (ins := .iadd) (len := 1) (loc' := [.ref 0, .ref 2, .ref 68, .int x3]) (st' := [.int (x3 + 1), .ref 0, .ref 2]) (by decide +kernel) (fun _ => rfl)).trans ?_
  refine (R_iaload (kd := 105) (n := L) (by decide +kernel) rfl (by decide) (h1)).trans ?_
  refine (R_virt (i := 74) (f := 113) (kd := 0) (na := 1) (ml := 3) (ci := 9) (n := 12) (b := 2) (As := [.int (mi 0 (x3 + 1).toNatClampNeg)]) (rest := []) (by decide +kernel) (by decide +kernel) (by decide) (by decide +kernel) rfl (by decide +kernel) rfl rfl (by decide +kernel) (Nat.le_of_ble_eq_true rfl)).trans ?_
  rfl
set_option maxRecDepth 4000 in
theorem s241_677 {L : Nat} {mi : Nat → Nat → Int32} {ml : Nat → Nat → Int64} {d : Nat} {Q : Option Value → xM → Prop} {x3 y : Int32} (h1 : xin (x3 + 1) L = true) : X 241 677 [.ref 0, .ref 2, .ref 68, .int x3] [.int y] (SH L, mi, ml, MR) (d + 1) Q =
    Xm 192 [.ref 68, .int (mi 0 (x3 + 1).toNatClampNeg)] (SH L, mi, ml, MR) d (fun v μ' => X 241 686 [.ref 0, .ref 2, .ref 68, .int x3] (v.toList ++ [.int y]) μ' (d + 1) Q) := by
  refine (R_pure0 (ins := .aload_n 2) (len := 1) (loc' := [.ref 0, .ref 2, .ref 68, .int x3]) (st' := [.ref 68, .int y]) (by decide +kernel) (fun _ => rfl)).trans ?_
  refine (R_pure0 (ins := .aload_n 0) (len := 1) (loc' := [.ref 0, .ref 2, .ref 68, .int x3]) (st' := [.ref 0, .ref 68, .int y]) (by decide +kernel) (fun _ => rfl)).trans ?_
  refine (R_pure0 (ins := .iload_n 3) (len := 1) (loc' := [.ref 0, .ref 2, .ref 68, .int x3]) (st' := [.int x3, .ref 0, .ref 68, .int y]) (by decide +kernel) (fun _ => rfl)).trans ?_
  refine (R_iconst (n := 1) (v := 1) (by decide +kernel) (by decide +kernel)).trans ?_
  refine (R_pure0 (ins := .iadd) (len := 1) (loc' := [.ref 0, .ref 2, .ref 68, .int x3]) (st' := [.int (x3 + 1), .ref 0, .ref 68, .int y]) (by decide +kernel) (fun _ => rfl)).trans ?_
  refine (R_iaload (kd := 105) (n := L) (by decide +kernel) rfl (by decide) (h1)).trans ?_
  refine (R_virt (i := 77) (f := 192) (kd := 0) (na := 1) (ml := 2) (ci := 10) (n := 33) (b := 68) (As := [.int (mi 0 (x3 + 1).toNatClampNeg)]) (rest := [.int y]) (by decide +kernel) (by decide +kernel) (by decide) (by decide +kernel) rfl (by decide +kernel) rfl rfl (by decide +kernel) (Nat.le_of_ble_eq_true rfl)).trans ?_
  rfl
set_option maxRecDepth 4000 in
theorem s241_686 {L : Nat} {mi : Nat → Nat → Int32} {ml : Nat → Nat → Int64} {d : Nat} {Q : Option Value → xM → Prop} {w x3 z0 : Int32} : X 241 686 [.ref 0, .ref 2, .ref 68, .int x3] [.int w, .int z0] (SH L, mi, ml, MR) d Q =
    if (z0 = w) then (X 241 1365 [.ref 0, .ref 2, .ref 68, .int x3] [] (SH L, mi, ml, MR) d Q) else (Q (some (.int 0)) (SH L, mi, ml, MR)) := by
  refine (R_icmp_eq (off := 679) (t := 1365) (by decide +kernel) (by decide +kernel)).trans (ite_congr rfl (fun c0 => ?_) (fun c0 => ?_))
  · rfl
  · refine (R_iconst (n := 0) (v := 0) (by decide +kernel) (by decide +kernel)).trans ?_
    exact R_zreturn (by decide +kernel) (by decide +kernel) (by decide)
set_option maxRecDepth 4000 in
theorem s241_691 {L : Nat} {mi : Nat → Nat → Int32} {ml : Nat → Nat → Int64} {d : Nat} {Q : Option Value → xM → Prop} {x3 : Int32} (h1 : xin (x3 + 1) L = true) : X 241 691 [.ref 0, .ref 2, .ref 68, .int x3] [] (SH L, mi, ml, MR) (d + 1) Q =
    Xm 114 [.ref 2, .int (mi 0 (x3 + 1).toNatClampNeg)] (SH L, mi, ml, MR) d (fun v μ' => X 241 700 [.ref 0, .ref 2, .ref 68, .int x3] (v.toList ++ []) μ' (d + 1) Q) := by
  refine (R_pure0 (ins := .aload_n 1) (len := 1) (loc' := [.ref 0, .ref 2, .ref 68, .int x3]) (st' := [.ref 2]) (by decide +kernel) (fun _ => rfl)).trans ?_
  refine (R_pure0 (ins := .aload_n 0) (len := 1) (loc' := [.ref 0, .ref 2, .ref 68, .int x3]) (st' := [.ref 0, .ref 2]) (by decide +kernel) (fun _ => rfl)).trans ?_
  refine (R_pure0 (ins := .iload_n 3) (len := 1) (loc' := [.ref 0, .ref 2, .ref 68, .int x3]) (st' := [.int x3, .ref 0, .ref 2]) (by decide +kernel) (fun _ => rfl)).trans ?_
  refine (R_iconst (n := 1) (v := 1) (by decide +kernel) (by decide +kernel)).trans ?_
  refine (R_pure0 (ins := .iadd) (len := 1) (loc' := [.ref 0, .ref 2, .ref 68, .int x3]) (st' := [.int (x3 + 1), .ref 0, .ref 2]) (by decide +kernel) (fun _ => rfl)).trans ?_
  refine (R_iaload (kd := 105) (n := L) (by decide +kernel) rfl (by decide) (h1)).trans ?_
  refine (R_virt (i := 78) (f := 114) (kd := 0) (na := 1) (ml := 3) (ci := 9) (n := 12) (b := 2) (As := [.int (mi 0 (x3 + 1).toNatClampNeg)]) (rest := []) (by decide +kernel) (by decide +kernel) (by decide) (by decide +kernel) rfl (by decide +kernel) rfl rfl (by decide +kernel) (Nat.le_of_ble_eq_true rfl)).trans ?_
  rfl
set_option maxRecDepth 4000 in
theorem s241_700 {L : Nat} {mi : Nat → Nat → Int32} {ml : Nat → Nat → Int64} {d : Nat} {Q : Option Value → xM → Prop} {x3 y : Int32} (h1 : xin (x3 + 1) L = true) : X 241 700 [.ref 0, .ref 2, .ref 68, .int x3] [.int y] (SH L, mi, ml, MR) (d + 1) Q =
    Xm 194 [.ref 68, .int (mi 0 (x3 + 1).toNatClampNeg)] (SH L, mi, ml, MR) d (fun v μ' => X 241 709 [.ref 0, .ref 2, .ref 68, .int x3] (v.toList ++ [.int y]) μ' (d + 1) Q) := by
  refine (R_pure0 (ins := .aload_n 2) (len := 1) (loc' := [.ref 0, .ref 2, .ref 68, .int x3]) (st' := [.ref 68, .int y]) (by decide +kernel) (fun _ => rfl)).trans ?_
  refine (R_pure0 (ins := .aload_n 0) (len := 1) (loc' := [.ref 0, .ref 2, .ref 68, .int x3]) (st' := [.ref 0, .ref 68, .int y]) (by decide +kernel) (fun _ => rfl)).trans ?_
  refine (R_pure0 (ins := .iload_n 3) (len := 1) (loc' := [.ref 0, .ref 2, .ref 68, .int x3]) (st' := [.int x3, .ref 0, .ref 68, .int y]) (by decide +kernel) (fun _ => rfl)).trans ?_
  refine (R_iconst (n := 1) (v := 1) (by decide +kernel) (by decide +kernel)).trans ?_
  refine (R_pure0 (ins := .iadd) (len := 1) (loc' := [.ref 0, .ref 2, .ref 68, .int x3]) (st' := [.int (x3 + 1), .ref 0, .ref 68, .int y]) (by decide +kernel) (fun _ => rfl)).trans ?_
  refine (R_iaload (kd := 105) (n := L) (by decide +kernel) rfl (by decide) (h1)).trans ?_
  refine (R_virt (i := 81) (f := 194) (kd := 0) (na := 1) (ml := 2) (ci := 10) (n := 33) (b := 68) (As := [.int (mi 0 (x3 + 1).toNatClampNeg)]) (rest := [.int y]) (by decide +kernel) (by decide +kernel) (by decide) (by decide +kernel) rfl (by decide +kernel) rfl rfl (by decide +kernel) (Nat.le_of_ble_eq_true rfl)).trans ?_
  rfl
set_option maxRecDepth 4000 in
theorem s241_709 {L : Nat} {mi : Nat → Nat → Int32} {ml : Nat → Nat → Int64} {d : Nat} {Q : Option Value → xM → Prop} {w x3 z0 : Int32} : X 241 709 [.ref 0, .ref 2, .ref 68, .int x3] [.int w, .int z0] (SH L, mi, ml, MR) d Q =
    if (z0 = w) then (X 241 1365 [.ref 0, .ref 2, .ref 68, .int x3] [] (SH L, mi, ml, MR) d Q) else (Q (some (.int 0)) (SH L, mi, ml, MR)) := by
  refine (R_icmp_eq (off := 656) (t := 1365) (by decide +kernel) (by decide +kernel)).trans (ite_congr rfl (fun c0 => ?_) (fun c0 => ?_))
  · rfl
  · refine (R_iconst (n := 0) (v := 0) (by decide +kernel) (by decide +kernel)).trans ?_
    exact R_zreturn (by decide +kernel) (by decide +kernel) (by decide)
set_option maxRecDepth 4000 in
theorem s241_714 {L : Nat} {mi : Nat → Nat → Int32} {ml : Nat → Nat → Int64} {d : Nat} {Q : Option Value → xM → Prop} {x3 : Int32} (h1 : xin (x3 + 1) L = true) : X 241 714 [.ref 0, .ref 2, .ref 68, .int x3] [] (SH L, mi, ml, MR) (d + 1) Q =
    Xm 115 [.ref 2, .int (mi 0 (x3 + 1).toNatClampNeg)] (SH L, mi, ml, MR) d (fun v μ' => X 241 723 [.ref 0, .ref 2, .ref 68, .int x3] (v.toList ++ []) μ' (d + 1) Q) := by
  refine (R_pure0 (ins := .aload_n 1) (len := 1) (loc' := [.ref 0, .ref 2, .ref 68, .int x3]) (st' := [.ref 2]) (by decide +kernel) (fun _ => rfl)).trans ?_
  refine (R_pure0 (ins := .aload_n 0) (len := 1) (loc' := [.ref 0, .ref 2, .ref 68, .int x3]) (st' := [.ref 0, .ref 2]) (by decide +kernel) (fun _ => rfl)).trans ?_
  refine (R_pure0 (ins := .iload_n 3) (len := 1) (loc' := [.ref 0, .ref 2, .ref 68, .int x3]) (st' := [.int x3, .ref 0, .ref 2]) (by decide +kernel) (fun _ => rfl)).trans ?_
  refine (R_iconst (n := 1) (v := 1) (by decide +kernel) (by decide +kernel)).trans ?_
  refine (R_pure0 (ins := .iadd) (len := 1) (loc' := [.ref 0, .ref 2, .ref 68, .int x3]) (st' := [.int (x3 + 1), .ref 0, .ref 2]) (by decide +kernel) (fun _ => rfl)).trans ?_
  refine (R_iaload (kd := 105) (n := L) (by decide +kernel) rfl (by decide) (h1)).trans ?_
  refine (R_virt (i := 82) (f := 115) (kd := 0) (na := 1) (ml := 3) (ci := 9) (n := 12) (b := 2) (As := [.int (mi 0 (x3 + 1).toNatClampNeg)]) (rest := []) (by decide +kernel) (by decide +kernel) (by decide) (by decide +kernel) rfl (by decide +kernel) rfl rfl (by decide +kernel) (Nat.le_of_ble_eq_true rfl)).trans ?_
  rfl
set_option maxRecDepth 4000 in
theorem s241_723 {L : Nat} {mi : Nat → Nat → Int32} {ml : Nat → Nat → Int64} {d : Nat} {Q : Option Value → xM → Prop} {x3 y : Int32} (h1 : xin (x3 + 1) L = true) : X 241 723 [.ref 0, .ref 2, .ref 68, .int x3] [.int y] (SH L, mi, ml, MR) (d + 1) Q =
    Xm 196 [.ref 68, .int (mi 0 (x3 + 1).toNatClampNeg)] (SH L, mi, ml, MR) d (fun v μ' => X 241 732 [.ref 0, .ref 2, .ref 68, .int x3] (v.toList ++ [.int y]) μ' (d + 1) Q) := by
  refine (R_pure0 (ins := .aload_n 2) (len := 1) (loc' := [.ref 0, .ref 2, .ref 68, .int x3]) (st' := [.ref 68, .int y]) (by decide +kernel) (fun _ => rfl)).trans ?_
  refine (R_pure0 (ins := .aload_n 0) (len := 1) (loc' := [.ref 0, .ref 2, .ref 68, .int x3]) (st' := [.ref 0, .ref 68, .int y]) (by decide +kernel) (fun _ => rfl)).trans ?_
  refine (R_pure0 (ins := .iload_n 3) (len := 1) (loc' := [.ref 0, .ref 2, .ref 68, .int x3]) (st' := [.int x3, .ref 0, .ref 68, .int y]) (by decide +kernel) (fun _ => rfl)).trans ?_
  refine (R_iconst (n := 1) (v := 1) (by decide +kernel) (by decide +kernel)).trans ?_
  refine (R_pure0 (ins := .iadd) (len := 1) (loc' := [.ref 0, .ref 2, .ref 68, .int x3]) (st' := [.int (x3 + 1), .ref 0, .ref 68, .int y]) (by decide +kernel) (fun _ => rfl)).trans ?_
  refine (R_iaload (kd := 105) (n := L) (by decide +kernel) rfl (by decide) (h1)).trans ?_
  refine (R_virt (i := 85) (f := 196) (kd := 0) (na := 1) (ml := 2) (ci := 10) (n := 33) (b := 68) (As := [.int (mi 0 (x3 + 1).toNatClampNeg)]) (rest := [.int y]) (by decide +kernel) (by decide +kernel) (by decide) (by decide +kernel) rfl (by decide +kernel) rfl rfl (by decide +kernel) (Nat.le_of_ble_eq_true rfl)).trans ?_
  rfl
set_option maxRecDepth 4000 in
theorem s241_732 {L : Nat} {mi : Nat → Nat → Int32} {ml : Nat → Nat → Int64} {d : Nat} {Q : Option Value → xM → Prop} {w x3 z0 : Int32} : X 241 732 [.ref 0, .ref 2, .ref 68, .int x3] [.int w, .int z0] (SH L, mi, ml, MR) d Q =
    if (z0 = w) then (X 241 1365 [.ref 0, .ref 2, .ref 68, .int x3] [] (SH L, mi, ml, MR) d Q) else (Q (some (.int 0)) (SH L, mi, ml, MR)) := by
  refine (R_icmp_eq (off := 633) (t := 1365) (by decide +kernel) (by decide +kernel)).trans (ite_congr rfl (fun c0 => ?_) (fun c0 => ?_))
  · rfl
  · refine (R_iconst (n := 0) (v := 0) (by decide +kernel) (by decide +kernel)).trans ?_
    exact R_zreturn (by decide +kernel) (by decide +kernel) (by decide)
set_option maxRecDepth 4000 in
theorem s241_737 {L : Nat} {mi : Nat → Nat → Int32} {ml : Nat → Nat → Int64} {d : Nat} {Q : Option Value → xM → Prop} {x3 : Int32} (h1 : xin (x3 + 1) L = true) : X 241 737 [.ref 0, .ref 2, .ref 68, .int x3] [] (SH L, mi, ml, MR) (d + 1) Q =
    Xm 116 [.ref 2, .int (mi 0 (x3 + 1).toNatClampNeg)] (SH L, mi, ml, MR) d (fun v μ' => X 241 746 [.ref 0, .ref 2, .ref 68, .int x3] (v.toList ++ []) μ' (d + 1) Q) := by
  refine (R_pure0 (ins := .aload_n 1) (len := 1) (loc' := [.ref 0, .ref 2, .ref 68, .int x3]) (st' := [.ref 2]) (by decide +kernel) (fun _ => rfl)).trans ?_
  refine (R_pure0 (ins := .aload_n 0) (len := 1) (loc' := [.ref 0, .ref 2, .ref 68, .int x3]) (st' := [.ref 0, .ref 2]) (by decide +kernel) (fun _ => rfl)).trans ?_
  refine (R_pure0 (ins := .iload_n 3) (len := 1) (loc' := [.ref 0, .ref 2, .ref 68, .int x3]) (st' := [.int x3, .ref 0, .ref 2]) (by decide +kernel) (fun _ => rfl)).trans ?_
  refine (R_iconst (n := 1) (v := 1) (by decide +kernel) (by decide +kernel)).trans ?_
  refine (R_pure0 (ins := .iadd) (len := 1) (loc' := [.ref 0, .ref 2, .ref 68, .int x3]) (st' := [.int (x3 + 1), .ref 0, .ref 2]) (by decide +kernel) (fun _ => rfl)).trans ?_
  refine (R_iaload (kd := 105) (n := L) (by decide +kernel) rfl (by decide) (h1)).trans ?_
  refine (R_virt (i := 86) (f := 116) (kd := 0) (na := 1) (ml := 3) (ci := 9) (n := 12) (b := 2) (As := [.int (mi 0 (x3 + 1).toNatClampNeg)]) (rest := []) (by decide +kernel) (by decide +kernel) (by decide) (by decide +kernel) rfl (by decide +kernel) rfl rfl (by decide +kernel) (Nat.le_of_ble_eq_true rfl)).trans ?_
  rfl
set_option maxRecDepth 4000 in
theorem s241_746 {L : Nat} {mi : Nat → Nat → Int32} {ml : Nat → Nat → Int64} {d : Nat} {Q : Option Value → xM → Prop} {x3 y : Int32} (h1 : xin (x3 + 1) L = true) : X 241 746 [.ref 0, .ref 2, .ref 68, .int x3] [.int y] (SH L, mi, ml, MR) (d + 1) Q =
    Xm 197 [.ref 68, .int (mi 0 (x3 + 1).toNatClampNeg)] (SH L, mi, ml, MR) d (fun v μ' => X 241 755 [.ref 0, .ref 2, .ref 68, .int x3] (v.toList ++ [.int y]) μ' (d + 1) Q) := by
  refine (R_pure0 (ins := .aload_n 2) (len := 1) (loc' := [.ref 0, .ref 2, .ref 68, .int x3]) (st' := [.ref 68, .int y]) (by decide +kernel) (fun _ => rfl)).trans ?_
  refine (R_pure0 (ins := .aload_n 0) (len := 1) (loc' := [.ref 0, .ref 2, .ref 68, .int x3]) (st' := [.ref 0, .ref 68, .int y]) (by decide +kernel) (fun _ => rfl)).trans ?_
  refine (R_pure0 (ins := .iload_n 3) (len := 1) (loc' := [.ref 0, .ref 2, .ref 68, .int x3]) (st' := [.int x3, .ref 0, .ref 68, .int y]) (by decide +kernel) (fun _ => rfl)).trans ?_
  refine (R_iconst (n := 1) (v := 1) (by decide +kernel) (by decide +kernel)).trans ?_
  refine (R_pure0 (ins := .iadd) (len := 1) (loc' := [.ref 0, .ref 2, .ref 68, .int x3]) (st' := [.int (x3 + 1), .ref 0, .ref 68, .int y]) (by decide +kernel) (fun _ => rfl)).trans ?_
  refine (R_iaload (kd := 105) (n := L) (by decide +kernel) rfl (by decide) (h1)).trans ?_
  refine (R_virt (i := 89) (f := 197) (kd := 0) (na := 1) (ml := 3) (ci := 10) (n := 33) (b := 68) (As := [.int (mi 0 (x3 + 1).toNatClampNeg)]) (rest := [.int y]) (by decide +kernel) (by decide +kernel) (by decide) (by decide +kernel) rfl (by decide +kernel) rfl rfl (by decide +kernel) (Nat.le_of_ble_eq_true rfl)).trans ?_
  rfl
set_option maxRecDepth 4000 in
theorem s241_755 {L : Nat} {mi : Nat → Nat → Int32} {ml : Nat → Nat → Int64} {d : Nat} {Q : Option Value → xM → Prop} {w x3 z0 : Int32} : X 241 755 [.ref 0, .ref 2, .ref 68, .int x3] [.int w, .int z0] (SH L, mi, ml, MR) d Q =
    if (z0 = w) then (X 241 1365 [.ref 0, .ref 2, .ref 68, .int x3] [] (SH L, mi, ml, MR) d Q) else (Q (some (.int 0)) (SH L, mi, ml, MR)) := by
  refine (R_icmp_eq (off := 610) (t := 1365) (by decide +kernel) (by decide +kernel)).trans (ite_congr rfl (fun c0 => ?_) (fun c0 => ?_))
  · rfl
  · refine (R_iconst (n := 0) (v := 0) (by decide +kernel) (by decide +kernel)).trans ?_
    exact R_zreturn (by decide +kernel) (by decide +kernel) (by decide)
set_option maxRecDepth 4000 in
theorem s241_760 {L : Nat} {mi : Nat → Nat → Int32} {ml : Nat → Nat → Int64} {d : Nat} {Q : Option Value → xM → Prop} {x3 : Int32} (h1 : xin (x3 + 1) L = true) : X 241 760 [.ref 0, .ref 2, .ref 68, .int x3] [] (SH L, mi, ml, MR) (d + 1) Q =
    Xm 117 [.ref 2, .int (mi 0 (x3 + 1).toNatClampNeg)] (SH L, mi, ml, MR) d (fun v μ' => X 241 769 [.ref 0, .ref 2, .ref 68, .int x3] (v.toList ++ []) μ' (d + 1) Q) := by
  refine (R_pure0 (ins := .aload_n 1) (len := 1) (loc' := [.ref 0, .ref 2, .ref 68, .int x3]) (st' := [.ref 2]) (by decide +kernel) (fun _ => rfl)).trans ?_
  refine (R_pure0 (ins := .aload_n 0) (len := 1) (loc' := [.ref 0, .ref 2, .ref 68, .int x3]) (st' := [.ref 0, .ref 2]) (by decide +kernel) (fun _ => rfl)).trans ?_
  refine (R_pure0 (ins := .iload_n 3) (len := 1) (loc' := [.ref 0, .ref 2, .ref 68, .int x3]) (st' := [.int x3, .ref 0, .ref 2]) (by decide +kernel) (fun _ => rfl)).trans ?_
  refine (R_iconst (n := 1) (v := 1) (by decide +kernel) (by decide +kernel)).trans ?_
  refine (R_pure0 (ins := .iadd) (len := 1) (loc' := [.ref 0, .ref 2, .ref 68, .int x3]) (st' := [.int (x3 + 1), .ref 0, .ref 2]) (by decide +kernel) (fun _ => rfl)).trans ?_
  refine (R_iaload (kd := 105) (n := L) (by decide +kernel) rfl (by decide) (h1)).trans ?_
  refine (R_virt (i := 90) (f := 117) (kd := 0) (na := 1) (ml := 3) (ci := 9) (n := 12) (b := 2) (As := [.int (mi 0 (x3 + 1).toNatClampNeg)]) (rest := []) (by decide +kernel) (by decide +kernel) (by decide) (by decide +kernel) rfl (by decide +kernel) rfl rfl (by decide +kernel) (Nat.le_of_ble_eq_true rfl)).trans ?_
  rfl
set_option maxRecDepth 4000 in
theorem s241_769 {L : Nat} {mi : Nat → Nat → Int32} {ml : Nat → Nat → Int64} {d : Nat} {Q : Option Value → xM → Prop} {x3 y : Int32} (h1 : xin (x3 + 1) L = true) : X 241 769 [.ref 0, .ref 2, .ref 68, .int x3] [.int y] (SH L, mi, ml, MR) (d + 1) Q =
    Xm 198 [.ref 68, .int (mi 0 (x3 + 1).toNatClampNeg)] (SH L, mi, ml, MR) d (fun v μ' => X 241 778 [.ref 0, .ref 2, .ref 68, .int x3] (v.toList ++ [.int y]) μ' (d + 1) Q) := by
  refine (R_pure0 (ins := .aload_n 2) (len := 1) (loc' := [.ref 0, .ref 2, .ref 68, .int x3]) (st' := [.ref 68, .int y]) (by decide +kernel) (fun _ => rfl)).trans ?_
  refine (R_pure0 (ins := .aload_n 0) (len := 1) (loc' := [.ref 0, .ref 2, .ref 68, .int x3]) (st' := [.ref 0, .ref 68, .int y]) (by decide +kernel) (fun _ => rfl)).trans ?_
  refine (R_pure0 (ins := .iload_n 3) (len := 1) (loc' := [.ref 0, .ref 2, .ref 68, .int x3]) (st' := [.int x3, .ref 0, .ref 68, .int y]) (by decide +kernel) (fun _ => rfl)).trans ?_
  refine (R_iconst (n := 1) (v := 1) (by decide +kernel) (by decide +kernel)).trans ?_
  refine (R_pure0 (ins := .iadd) (len := 1) (loc' := [.ref 0, .ref 2, .ref 68, .int x3]) (st' := [.int (x3 + 1), .ref 0, .ref 68, .int y]) (by decide +kernel) (fun _ => rfl)).trans ?_
  refine (R_iaload (kd := 105) (n := L) (by decide +kernel) rfl (by decide) (h1)).trans ?_
  refine (R_virt (i := 93) (f := 198) (kd := 0) (na := 1) (ml := 2) (ci := 10) (n := 33) (b := 68) (As := [.int (mi 0 (x3 + 1).toNatClampNeg)]) (rest := [.int y]) (by decide +kernel) (by decide +kernel) (by decide) (by decide +kernel) rfl (by decide +kernel) rfl rfl (by decide +kernel) (Nat.le_of_ble_eq_true rfl)).trans ?_
  rfl
set_option maxRecDepth 4000 in
theorem s241_778 {L : Nat} {mi : Nat → Nat → Int32} {ml : Nat → Nat → Int64} {d : Nat} {Q : Option Value → xM → Prop} {w x3 z0 : Int32} : X 241 778 [.ref 0, .ref 2, .ref 68, .int x3] [.int w, .int z0] (SH L, mi, ml, MR) d Q =
    if (z0 = w) then (X 241 1365 [.ref 0, .ref 2, .ref 68, .int x3] [] (SH L, mi, ml, MR) d Q) else (Q (some (.int 0)) (SH L, mi, ml, MR)) := by
  refine (R_icmp_eq (off := 587) (t := 1365) (by decide +kernel) (by decide +kernel)).trans (ite_congr rfl (fun c0 => ?_) (fun c0 => ?_))
  · rfl
  · refine (R_iconst (n := 0) (v := 0) (by decide +kernel) (by decide +kernel)).trans ?_
    exact R_zreturn (by decide +kernel) (by decide +kernel) (by decide)
set_option maxRecDepth 4000 in
theorem s241_783 {L : Nat} {mi : Nat → Nat → Int32} {ml : Nat → Nat → Int64} {d : Nat} {Q : Option Value → xM → Prop} {x3 : Int32} (h1 : xin (x3 + 1) L = true) : X 241 783 [.ref 0, .ref 2, .ref 68, .int x3] [] (SH L, mi, ml, MR) (d + 1) Q =
    Xm 118 [.ref 2, .int (mi 0 (x3 + 1).toNatClampNeg)] (SH L, mi, ml, MR) d (fun v μ' => X 241 792 [.ref 0, .ref 2, .ref 68, .int x3] (v.toList ++ []) μ' (d + 1) Q) := by
  refine (R_pure0 (ins := .aload_n 1) (len := 1) (loc' := [.ref 0, .ref 2, .ref 68, .int x3]) (st' := [.ref 2]) (by decide +kernel) (fun _ => rfl)).trans ?_
  refine (R_pure0 (ins := .aload_n 0) (len := 1) (loc' := [.ref 0, .ref 2, .ref 68, .int x3]) (st' := [.ref 0, .ref 2]) (by decide +kernel) (fun _ => rfl)).trans ?_
  refine (R_pure0 (ins := .iload_n 3) (len := 1) (loc' := [.ref 0, .ref 2, .ref 68, .int x3]) (st' := [.int x3, .ref 0, .ref 2]) (by decide +kernel) (fun _ => rfl)).trans ?_
  refine (R_iconst (n := 1) (v := 1) (by decide +kernel) (by decide +kernel)).trans ?_
  refine (R_pure0 (ins := .iadd) (len := 1) (loc' := [.ref 0, .ref 2, .ref 68, .int x3]) (st' := [.int (x3 + 1), .ref 0, .ref 2]) (by decide +kernel) (fun _ => rfl)).trans ?_
  refine (R_iaload (kd := 105) (n := L) (by decide +kernel) rfl (by decide) (h1)).trans ?_
  refine (R_virt (i := 94) (f := 118) (kd := 0) (na := 1) (ml := 3) (ci := 9) (n := 12) (b := 2) (As := [.int (mi 0 (x3 + 1).toNatClampNeg)]) (rest := []) (by decide +kernel) (by decide +kernel) (by decide) (by decide +kernel) rfl (by decide +kernel) rfl rfl (by decide +kernel) (Nat.le_of_ble_eq_true rfl)).trans ?_
  rfl
set_option maxRecDepth 4000 in
theorem s241_792 {L : Nat} {mi : Nat → Nat → Int32} {ml : Nat → Nat → Int64} {d : Nat} {Q : Option Value → xM → Prop} {x3 y : Int32} (h1 : xin (x3 + 1) L = true) : X 241 792 [.ref 0, .ref 2, .ref 68, .int x3] [.int y] (SH L, mi, ml, MR) (d + 1) Q =
    Xm 199 [.ref 68, .int (mi 0 (x3 + 1).toNatClampNeg)] (SH L, mi, ml, MR) d (fun v μ' => X 241 801 [.ref 0, .ref 2, .ref 68, .int x3] (v.toList ++ [.int y]) μ' (d + 1) Q) := by
  refine (R_pure0 (ins := .aload_n 2) (len := 1) (loc' := [.ref 0, .ref 2, .ref 68, .int x3]) (st' := [.ref 68, .int y]) (by decide +kernel) (fun _ => rfl)).trans ?_
  refine (R_pure0 (ins := .aload_n 0) (len := 1) (loc' := [.ref 0, .ref 2, .ref 68, .int x3]) (st' := [.ref 0, .ref 68, .int y]) (by decide +kernel) (fun _ => rfl)).trans ?_
  refine (R_pure0 (ins := .iload_n 3) (len := 1) (loc' := [.ref 0, .ref 2, .ref 68, .int x3]) (st' := [.int x3, .ref 0, .ref 68, .int y]) (by decide +kernel) (fun _ => rfl)).trans ?_
  refine (R_iconst (n := 1) (v := 1) (by decide +kernel) (by decide +kernel)).trans ?_
  refine (R_pure0 (ins := .iadd) (len := 1) (loc' := [.ref 0, .ref 2, .ref 68, .int x3]) (st' := [.int (x3 + 1), .ref 0, .ref 68, .int y]) (by decide +kernel) (fun _ => rfl)).trans ?_
  refine (R_iaload (kd := 105) (n := L) (by decide +kernel) rfl (by decide) (h1)).trans ?_
  refine (R_virt (i := 97) (f := 199) (kd := 0) (na := 1) (ml := 2) (ci := 10) (n := 33) (b := 68) (As := [.int (mi 0 (x3 + 1).toNatClampNeg)]) (rest := [.int y]) (by decide +kernel) (by decide +kernel) (by decide) (by decide +kernel) rfl (by decide +kernel) rfl rfl (by decide +kernel) (Nat.le_of_ble_eq_true rfl)).trans ?_
  rfl
set_option maxRecDepth 4000 in
theorem s241_801 {L : Nat} {mi : Nat → Nat → Int32} {ml : Nat → Nat → Int64} {d : Nat} {Q : Option Value → xM → Prop} {w x3 z0 : Int32} : X 241 801 [.ref 0, .ref 2, .ref 68, .int x3] [.int w, .int z0] (SH L, mi, ml, MR) d Q =
    if (z0 = w) then (X 241 1365 [.ref 0, .ref 2, .ref 68, .int x3] [] (SH L, mi, ml, MR) d Q) else (Q (some (.int 0)) (SH L, mi, ml, MR)) := by
  refine (R_icmp_eq (off := 564) (t := 1365) (by decide +kernel) (by decide +kernel)).trans (ite_congr rfl (fun c0 => ?_) (fun c0 => ?_))
  · rfl
  · refine (R_iconst (n := 0) (v := 0) (by decide +kernel) (by decide +kernel)).trans ?_
    exact R_zreturn (by decide +kernel) (by decide +kernel) (by decide)
set_option maxRecDepth 4000 in
theorem s241_806 {L : Nat} {mi : Nat → Nat → Int32} {ml : Nat → Nat → Int64} {d : Nat} {Q : Option Value → xM → Prop} {x3 : Int32} : X 241 806 [.ref 0, .ref 2, .ref 68, .int x3] [] (SH L, mi, ml, MR) (d + 1) Q =
    Xm 119 [.ref 2] (SH L, mi, ml, MR) d (fun v μ' => X 241 810 [.ref 0, .ref 2, .ref 68, .int x3] (v.toList ++ []) μ' (d + 1) Q) := by
  refine (R_pure0 (ins := .aload_n 1) (len := 1) (loc' := [.ref 0, .ref 2, .ref 68, .int x3]) (st' := [.ref 2]) (by decide +kernel) (fun _ => rfl)).trans ?_
  refine (R_virt (i := 98) (f := 119) (kd := 0) (na := 0) (ml := 1) (ci := 9) (n := 12) (b := 2) (As := []) (rest := []) (by decide +kernel) (by decide +kernel) (by decide) (by decide +kernel) rfl (by decide +kernel) rfl rfl (by decide +kernel) (Nat.le_of_ble_eq_true rfl)).trans ?_
  rfl
set_option maxRecDepth 4000 in
theorem s241_810 {L : Nat} {mi : Nat → Nat → Int32} {ml : Nat → Nat → Int64} {d : Nat} {Q : Option Value → xM → Prop} {x3 y : Int32} : X 241 810 [.ref 0, .ref 2, .ref 68, .int x3] [.int y] (SH L, mi, ml, MR) (d + 1) Q =
    Xm 202 [.ref 68] (SH L, mi, ml, MR) d (fun v μ' => X 241 814 [.ref 0, .ref 2, .ref 68, .int x3] (v.toList ++ [.int y]) μ' (d + 1) Q) := by
  refine (R_pure0 (ins := .aload_n 2) (len := 1) (loc' := [.ref 0, .ref 2, .ref 68, .int x3]) (st' := [.ref 68, .int y]) (by decide +kernel) (fun _ => rfl)).trans ?_
  refine (R_virt (i := 101) (f := 202) (kd := 0) (na := 0) (ml := 4) (ci := 10) (n := 33) (b := 68) (As := []) (rest := [.int y]) (by decide +kernel) (by decide +kernel) (by decide) (by decide +kernel) rfl (by decide +kernel) rfl rfl (by decide +kernel) (Nat.le_of_ble_eq_true rfl)).trans ?_
  rfl
set_option maxRecDepth 4000 in
theorem s241_814 {L : Nat} {mi : Nat → Nat → Int32} {ml : Nat → Nat → Int64} {d : Nat} {Q : Option Value → xM → Prop} {w x3 z0 : Int32} : X 241 814 [.ref 0, .ref 2, .ref 68, .int x3] [.int w, .int z0] (SH L, mi, ml, MR) d Q =
    if (z0 = w) then (X 241 1365 [.ref 0, .ref 2, .ref 68, .int x3] [] (SH L, mi, ml, MR) d Q) else (Q (some (.int 0)) (SH L, mi, ml, MR)) := by
  refine (R_icmp_eq (off := 551) (t := 1365) (by decide +kernel) (by decide +kernel)).trans (ite_congr rfl (fun c0 => ?_) (fun c0 => ?_))
  · rfl
  · refine (R_iconst (n := 0) (v := 0) (by decide +kernel) (by decide +kernel)).trans ?_
    exact R_zreturn (by decide +kernel) (by decide +kernel) (by decide)
set_option maxRecDepth 4000 in
theorem s241_819 {L : Nat} {mi : Nat → Nat → Int32} {ml : Nat → Nat → Int64} {d : Nat} {Q : Option Value → xM → Prop} {x3 : Int32} (h1 : xin (x3 + 1) L = true) (h2 : xin (x3 + 2) L = true) : X 241 819 [.ref 0, .ref 2, .ref 68, .int x3] [] (SH L, mi, ml, MR) (d + 1) Q =
    Xm 120 [.ref 2, .int (mi 0 (x3 + 1).toNatClampNeg), .int (mi 0 (x3 + 2).toNatClampNeg)] (SH L, mi, ml, MR) d (fun v μ' => X 241 833 [.ref 0, .ref 2, .ref 68, .int x3] (v.toList ++ []) μ' (d + 1) Q) := by
  refine (R_pure0 (ins := .aload_n 1) (len := 1) (loc' := [.ref 0, .ref 2, .ref 68, .int x3]) (st' := [.ref 2]) (by decide +kernel) (fun _ => rfl)).trans ?_
  refine (R_pure0 (ins := .aload_n 0) (len := 1) (loc' := [.ref 0, .ref 2, .ref 68, .int x3]) (st' := [.ref 0, .ref 2]) (by decide +kernel) (fun _ => rfl)).trans ?_
  refine (R_pure0 (ins := .iload_n 3) (len := 1) (loc' := [.ref 0, .ref 2, .ref 68, .int x3]) (st' := [.int x3, .ref 0, .ref 2]) (by decide +kernel) (fun _ => rfl)).trans ?_
  refine (R_iconst (n := 1) (v := 1) (by decide +kernel) (by decide +kernel)).trans ?_
  refine (R_pure0 (ins := .iadd) (len := 1) (loc' := [.ref 0, .ref 2, .ref 68, .int x3]) (st' := [.int (x3 + 1), .ref 0, .ref 2]) (by decide +kernel) (fun _ => rfl)).trans ?_
  refine (R_iaload (kd := 105) (n := L) (by decide +kernel) rfl (by decide) (h1)).trans ?_
  refine (R_pure0 (ins := .aload_n 0) (len := 1) (loc' := [.ref 0, .ref 2, .ref 68, .int x3]) (st' := [.ref 0, .int (mi 0 (x3 + 1).toNatClampNeg), .ref 2]) (by decide +kernel) (fun _ => rfl)).trans ?_
  refine (R_pure0 (ins := .iload_n 3) (len := 1) (loc' := [.ref 0, .ref 2, .ref 68, .int x3]) (st' := [.int x3, .ref 0, .int (mi 0 (x3 + 1).toNatClampNeg), .ref 2]) (by decide +kernel) (fun _ => rfl)).trans ?_
  refine (R_iconst (n := 2) (v := 2) (by decide +kernel) (by decide +kernel)).trans ?_
  refine (R_pure0 (ins := .iadd) (len := 1) (loc' := [.ref 0, .ref 2, .ref 68, .int x3]) (st' := [.int (x3 + 2), .ref 0, .int (mi 0 (x3 + 1).toNatClampNeg), .ref 2]) (by decide +kernel) (fun _ => rfl)).trans ?_
  refine (R_iaload (kd := 105) (n := L) (by decide +kernel) rfl (by decide) (h2)).trans ?_
  refine (R_virt (i := 102) (f := 120) (kd := 0) (na := 2) (ml := 4) (ci := 9) (n := 12) (b := 2) (As := [.int (mi 0 (x3 + 1).toNatClampNeg), .int (mi 0 (x3 + 2).toNatClampNeg)]) (rest := []) (by decide +kernel) (by decide +kernel) (by decide) (by decide +kernel) rfl (by decide +kernel) rfl rfl (by decide +kernel) (Nat.le_of_ble_eq_true rfl)).trans ?_
  rfl
set_option maxRecDepth 4000 in
theorem s241_833 {L : Nat} {mi : Nat → Nat → Int32} {ml : Nat → Nat → Int64} {d : Nat} {Q : Option Value → xM → Prop} {x3 y : Int32} (h1 : xin (x3 + 1) L = true) (h2 : xin (x3 + 2) L = true) : X 241 833 [.ref 0, .ref 2, .ref 68, .int x3] [.int y] (SH L, mi, ml, MR) (d + 1) Q =
    Xm 204 [.ref 68, .int (mi 0 (x3 + 1).toNatClampNeg), .int (mi 0 (x3 + 2).toNatClampNeg)] (SH L, mi, ml, MR) d (fun v μ' => X 241 847 [.ref 0, .ref 2, .ref 68, .int x3] (v.toList ++ [.int y]) μ' (d + 1) Q) := by
  refine (R_pure0 (ins := .aload_n 2) (len := 1) (loc' := [.ref 0, .ref 2, .ref 68, .int x3]) (st' := [.ref 68, .int y]) (by decide +kernel) (fun _ => rfl)).trans ?_
  refine (R_pure0 (ins := .aload_n 0) (len := 1) (loc' := [.ref 0, .ref 2, .ref 68, .int x3]) (st' := [.ref 0, .ref 68, .int y]) (by decide +kernel) (fun _ => rfl)).trans ?_
  refine (R_pure0 (ins := .iload_n 3) (len := 1) (loc' := [.ref 0, .ref 2, .ref 68, .int x3]) (st' := [.int x3, .ref 0, .ref 68, .int y]) (by decide +kernel) (fun _ => rfl)).trans ?_
  refine (R_iconst (n := 1) (v := 1) (by decide +kernel) (by decide +kernel)).trans ?_
  refine (R_pure0 (ins := .iadd) (len := 1) (loc' := [.ref 0, .ref 2, .ref 68, .int x3]) (st' := [.int (x3 + 1), .ref 0, .ref 68, .int y]) (by decide +kernel) (fun _ => rfl)).trans ?_
  refine (R_iaload (kd := 105) (n := L) (by decide +kernel) rfl (by decide) (h1)).trans ?_
  refine (R_pure0 (ins := .aload_n 0) (len := 1) (loc' := [.ref 0, .ref 2, .ref 68, .int x3]) (st' := [.ref 0, .int (mi 0 (x3 + 1).toNatClampNeg), .ref 68, .int y]) (by decide +kernel) (fun _ => rfl)).trans ?_
  refine (R_pure0 (ins := .iload_n 3) (len := 1) (loc' := [.ref 0, .ref 2, .ref 68, .int x3]) (st' := [.int x3, .ref 0, .int (mi 0 (x3 + 1).toNatClampNeg), .ref 68, .int y]) (by decide +kernel) (fun _ => rfl)).trans ?_
  refine (R_iconst (n := 2) (v := 2) (by decide +kernel) (by decide +kernel)).trans ?_
  refine (R_pure0 (ins := .iadd) (len := 1) (loc' := [.ref 0, .ref 2, .ref 68, .int x3]) (st' := [.int (x3 + 2), .ref 0, .int (mi 0 (x3 + 1).toNatClampNeg), .ref 68, .int y]) (by decide +kernel) (fun _ => rfl)).trans ?_
  refine (R_iaload (kd := 105) (n := L) (by decide +kernel) rfl (by decide) (h2)).trans ?_
  refine (R_virt (i := 105) (f := 204) (kd := 0) (na := 2) (ml := 4) (ci := 10) (n := 33) (b := 68) (As := [.int (mi 0 (x3 + 1).toNatClampNeg), .int (mi 0 (x3 + 2).toNatClampNeg)]) (rest := [.int y]) (by decide +kernel) (by decide +kernel) (by decide) (by decide +kernel) rfl (by decide +kernel) rfl rfl (by decide +kernel) (Nat.le_of_ble_eq_true rfl)).trans ?_
  rfl
set_option maxRecDepth 4000 in
theorem s241_847 {L : Nat} {mi : Nat → Nat → Int32} {ml : Nat → Nat → Int64} {d : Nat} {Q : Option Value → xM → Prop} {w x3 z0 : Int32} : X 241 847 [.ref 0, .ref 2, .ref 68, .int x3] [.int w, .int z0] (SH L, mi, ml, MR) d Q =
    if (z0 = w) then (X 241 1365 [.ref 0, .ref 2, .ref 68, .int x3] [] (SH L, mi, ml, MR) d Q) else (Q (some (.int 0)) (SH L, mi, ml, MR)) := by
  refine (R_icmp_eq (off := 518) (t := 1365) (by decide +kernel) (by decide +kernel)).trans (ite_congr rfl (fun c0 => ?_) (fun c0 => ?_))
  · rfl
  · refine (R_iconst (n := 0) (v := 0) (by decide +kernel) (by decide +kernel)).trans ?_
    exact R_zreturn (by decide +kernel) (by decide +kernel) (by decide)
set_option maxRecDepth 4000 in
theorem s241_852 {L : Nat} {mi : Nat → Nat → Int32} {ml : Nat → Nat → Int64} {d : Nat} {Q : Option Value → xM → Prop} {x3 : Int32} (h1 : xin (x3 + 1) L = true) (h2 : xin (x3 + 2) L = true) (h3 : xin (x3 + 3) L = true) : X 241 852 [.ref 0, .ref 2, .ref 68, .int x3] [] (SH L, mi, ml, MR) (d + 1) Q =
    Xm 121 [.ref 2, .int (mi 0 (x3 + 1).toNatClampNeg), .int (mi 0 (x3 + 2).toNatClampNeg), .int (mi 0 (x3 + 3).toNatClampNeg)] (SH L, mi, ml, MR) d (fun v μ' => X 241 871 [.ref 0, .ref 2, .ref 68, .int x3] (v.toList ++ []) μ' (d + 1) Q) := by
  refine (R_pure0 (ins := .aload_n 1) (len := 1) (loc' := [.ref 0, .ref 2, .ref 68, .int x3]) (st' := [.ref 2]) (by decide +kernel) (fun _ => rfl)).trans ?_
  refine (R_pure0 (ins := .aload_n 0) (len := 1) (loc' := [.ref 0, .ref 2, .ref 68, .int x3]) (st' := [.ref 0, .ref 2]) (by decide +kernel) (fun _ => rfl)).trans ?_
  refine (R_pure0 (ins := .iload_n 3) (len := 1) (loc' := [.ref 0, .ref 2, .ref 68, .int x3]) (st' := [.int x3, .ref 0, .ref 2]) (by decide +kernel) (fun _ => rfl)).trans ?_
  refine (R_iconst (n := 1) (v := 1) (by decide +kernel) (by decide +kernel)).trans ?_
  refine (R_pure0 (ins := .iadd) (len := 1) (loc' := [.ref 0, .ref 2, .ref 68, .int x3]) (st' := [.int (x3 + 1), .ref 0, .ref 2]) (by decide +kernel) (fun _ => rfl)).trans ?_
  refine (R_iaload (kd := 105) (n := L) (by decide +kernel) rfl (by decide) (h1)).trans ?_
  refine (R_pure0 (ins := .aload_n 0) (len := 1) (loc' := [.ref 0, .ref 2, .ref 68, .int x3]) (st' := [.ref 0, .int (mi 0 (x3 + 1).toNatClampNeg), .ref 2]) (by decide +kernel) (fun _ => rfl)).trans ?_
  refine (R_pure0 (ins := .iload_n 3) (len := 1) (loc' := [.ref 0, .ref 2, .ref 68, .int x3]) (st' := [.int x3, .ref 0, .int (mi 0 (x3 + 1).toNatClampNeg), .ref 2]) (by decide +kernel) (fun _ => rfl)).trans ?_
  refine (R_iconst (n := 2) (v := 2) (by decide +kernel) (by decide +kernel)).trans ?_
  refine (R_pure0 (ins := .iadd) (len := 1) (loc' := [.ref 0, .ref 2, .ref 68, .int x3]) (st' := [.int (x3 + 2), .ref 0, .int (mi 0 (x3 + 1).toNatClampNeg), .ref 2]) (by decide +kernel) (fun _ => rfl)).trans ?_
  refine (R_iaload (kd := 105) (n := L) (by decide +kernel) rfl (by decide) (h2)).trans ?_
  refine (R_pure0 (ins := .aload_n 0) (len := 1) (loc' := [.ref 0, .ref 2, .ref 68, .int x3]) (st' := [.ref 0, .int (mi 0 (x3 + 2).toNatClampNeg), .int (mi 0 (x3 + 1).toNatClampNeg), .ref 2]) (by decide +kernel) (fun _ => rfl)).trans ?_
  refine (R_pure0 (ins := .iload_n 3) (len := 1) (loc' := [.ref 0, .ref 2, .ref 68, .int x3]) (st' := [.int x3, .ref 0, .int (mi 0 (x3 + 2).toNatClampNeg), .int (mi 0 (x3 + 1).toNatClampNeg), .ref 2]) (by decide +kernel) (fun _ => rfl)).trans ?_
  refine (R_iconst (n := 3) (v := 3) (by decide +kernel) (by decide +kernel)).trans ?_
  refine (R_pure0 (ins := .iadd) (len := 1) (loc' := [.ref 0, .ref 2, .ref 68, .int x3]) (st' := [.int (x3 + 3), .ref 0, .int (mi 0 (x3 + 2).toNatClampNeg), .int (mi 0 (x3 + 1).toNatClampNeg), .ref 2]) (by decide +kernel) (fun _ => rfl)).trans ?_
  refine (R_iaload (kd := 105) (n := L) (by decide +kernel) rfl (by decide) (h3)).trans ?_
  refine (R_virt (i := 106) (f := 121) (kd := 0) (na := 3) (ml := 6) (ci := 9) (n := 12) (b := 2) (As := [.int (mi 0 (x3 + 1).toNatClampNeg), .int (mi 0 (x3 + 2).toNatClampNeg), .int (mi 0 (x3 + 3).toNatClampNeg)]) (rest := []) (by decide +kernel) (by decide +kernel) (by decide) (by decide +kernel) rfl (by decide +kernel) rfl rfl (by decide +kernel) (Nat.le_of_ble_eq_true rfl)).trans ?_
  rfl
set_option maxRecDepth 4000 in
theorem s241_871 {L : Nat} {mi : Nat → Nat → Int32} {ml : Nat → Nat → Int64} {d : Nat} {Q : Option Value → xM → Prop} {x3 y : Int32} (h1 : xin (x3 + 1) L = true) (h2 : xin (x3 + 2) L = true) (h3 : xin (x3 + 3) L = true) : X 241 871 [.ref 0, .ref 2, .ref 68, .int x3] [.int y] (SH L, mi, ml, MR) (d + 1) Q =
    Xm 205 [.ref 68, .int (mi 0 (x3 + 1).toNatClampNeg), .int (mi 0 (x3 + 2).toNatClampNeg), .int (mi 0 (x3 + 3).toNatClampNeg)] (SH L, mi, ml, MR) d (fun v μ' => X 241 890 [.ref 0, .ref 2, .ref 68, .int x3] (v.toList ++ [.int y]) μ' (d + 1) Q) := by
  refine (R_pure0 (ins := .aload_n 2) (len := 1) (loc' := [.ref 0, .ref 2, .ref 68, .int x3]) (st' := [.ref 68, .int y]) (by decide +kernel) (fun _ => rfl)).trans ?_
  refine (R_pure0 (ins := .aload_n 0) (len := 1) (loc' := [.ref 0, .ref 2, .ref 68, .int x3]) (st' := [.ref 0, .ref 68, .int y]) (by decide +kernel) (fun _ => rfl)).trans ?_
  refine (R_pure0 (ins := .iload_n 3) (len := 1) (loc' := [.ref 0, .ref 2, .ref 68, .int x3]) (st' := [.int x3, .ref 0, .ref 68, .int y]) (by decide +kernel) (fun _ => rfl)).trans ?_
  refine (R_iconst (n := 1) (v := 1) (by decide +kernel) (by decide +kernel)).trans ?_
  refine (R_pure0 (ins := .iadd) (len := 1) (loc' := [.ref 0, .ref 2, .ref 68, .int x3]) (st' := [.int (x3 + 1), .ref 0, .ref 68, .int y]) (by decide +kernel) (fun _ => rfl)).trans ?_
  refine (R_iaload (kd := 105) (n := L) (by decide +kernel) rfl (by decide) (h1)).trans ?_
  refine (R_pure0 (ins := .aload_n 0) (len := 1) (loc' := [.ref 0, .ref 2, .ref 68, .int x3]) (st' := [.ref 0, .int (mi 0 (x3 + 1).toNatClampNeg), .ref 68, .int y]) (by decide +kernel) (fun _ => rfl)).trans ?_
  refine (R_pure0 (ins := .iload_n 3) (len := 1) (loc' := [.ref 0, .ref 2, .ref 68, .int x3]) (st' := [.int x3, .ref 0, .int (mi 0 (x3 + 1).toNatClampNeg), .ref 68, .int y]) (by decide +kernel) (fun _ => rfl)).trans ?_
  refine (R_iconst (n := 2) (v := 2) (by decide +kernel) (by decide +kernel)).trans ?_
  refine (R_pure0 (ins := .iadd) (len := 1) (loc' := [.ref 0, .ref 2, .ref 68, .int x3]) (st' := [.int (x3 + 2), .ref 0, .int (mi 0 (x3 + 1).toNatClampNeg), .ref 68, .int y]) (by decide +kernel) (fun _ => rfl)).trans ?_
  refine (R_iaload (kd := 105) (n := L) (by decide +kernel) rfl (by decide) (h2)).trans ?_
  refine (R_pure0 (ins := .aload_n 0) (len := 1) (loc' := [.ref 0, .ref 2, .ref 68, .int x3]) (st' := [.ref 0, .int (mi 0 (x3 + 2).toNatClampNeg), .int (mi 0 (x3 + 1).toNatClampNeg), .ref 68, .int y]) (by decide +kernel) (fun _ => rfl)).trans ?_
  refine (R_pure0 (ins := .iload_n 3) (len := 1) (loc' := [.ref 0, .ref 2, .ref 68, .int x3]) (st' := [.int x3, .ref 0, .int (mi 0 (x3 + 2).toNatClampNeg), .int (mi 0 (x3 + 1).toNatClampNeg), .ref 68, .int y]) (by decide +kernel) (fun _ => rfl)).trans ?_
  refine (R_iconst (n := 3) (v := 3) (by decide +kernel) (by decide +kernel)).trans ?_
  refine (R_pure0 (ins := .iadd) (len := 1) (loc' := [.ref 0, .ref 2, .ref 68, .int x3]) (st' := [.int (x3 + 3), .ref 0, .int (mi 0 (x3 + 2).toNatClampNeg), .int (mi 0 (x3 + 1).toNatClampNeg), .ref 68, .int y]) (by decide +kernel) (fun _ => rfl)).trans ?_
  refine (R_iaload (kd := 105) (n := L) (by decide +kernel) rfl (by decide) (h3)).trans ?_
  refine (R_virt (i := 109) (f := 205) (kd := 0) (na := 3) (ml := 5) (ci := 10) (n := 33) (b := 68) (As := [.int (mi 0 (x3 + 1).toNatClampNeg), .int (mi 0 (x3 + 2).toNatClampNeg), .int (mi 0 (x3 + 3).toNatClampNeg)]) (rest := [.int y]) (by decide +kernel) (by decide +kernel) (by decide) (by decide +kernel) rfl (by decide +kernel) rfl rfl (by decide +kernel) (Nat.le_of_ble_eq_true rfl)).trans ?_
  rfl
set_option maxRecDepth 4000 in
theorem s241_890 {L : Nat} {mi : Nat → Nat → Int32} {ml : Nat → Nat → Int64} {d : Nat} {Q : Option Value → xM → Prop} {w x3 z0 : Int32} : X 241 890 [.ref 0, .ref 2, .ref 68, .int x3] [.int w, .int z0] (SH L, mi, ml, MR) d Q =
    if (z0 = w) then (X 241 1365 [.ref 0, .ref 2, .ref 68, .int x3] [] (SH L, mi, ml, MR) d Q) else (Q (some (.int 0)) (SH L, mi, ml, MR)) := by
  refine (R_icmp_eq (off := 475) (t := 1365) (by decide +kernel) (by decide +kernel)).trans (ite_congr rfl (fun c0 => ?_) (fun c0 => ?_))
  · rfl
  · refine (R_iconst (n := 0) (v := 0) (by decide +kernel) (by decide +kernel)).trans ?_
    exact R_zreturn (by decide +kernel) (by decide +kernel) (by decide)
set_option maxRecDepth 4000 in
theorem s241_895 {L : Nat} {mi : Nat → Nat → Int32} {ml : Nat → Nat → Int64} {d : Nat} {Q : Option Value → xM → Prop} {x3 : Int32} (h1 : xin (x3 + 1) L = true) (h2 : xin (x3 + 2) L = true) : X 241 895 [.ref 0, .ref 2, .ref 68, .int x3] [] (SH L, mi, ml, MR) (d + 1) Q =
    Xm 122 [.ref 2, .int (mi 0 (x3 + 1).toNatClampNeg), .int (mi 0 (x3 + 2).toNatClampNeg)] (SH L, mi, ml, MR) d (fun v μ' => X 241 909 [.ref 0, .ref 2, .ref 68, .int x3] (v.toList ++ []) μ' (d + 1) Q) := by
  refine (R_pure0 (ins := .aload_n 1) (len := 1) (loc' := [.ref 0, .ref 2, .ref 68, .int x3]) (st' := [.ref 2]) (by decide +kernel) (fun _ => rfl)).trans ?_
  refine (R_pure0 (ins := .aload_n 0) (len := 1) (loc' := [.ref 0, .ref 2, .ref 68, .int x3]) (st' := [.ref 0, .ref 2]) (by decide +kernel) (fun _ => rfl)).trans ?_
  refine (R_pure0 (ins := .iload_n 3) (len := 1) (loc' := [.ref 0, .ref 2, .ref 68, .int x3]) (st' := [.int x3, .ref 0, .ref 2]) (by decide +kernel) (fun _ => rfl)).trans ?_
  refine (R_iconst (n := 1) (v := 1) (by decide +kernel) (by decide +kernel)).trans ?_
  refine (R_pure0 (ins := .iadd) (len := 1) (loc' := [.ref 0, .ref 2, .ref 68, .int x3]) (st' := [.int (x3 + 1), .ref 0, .ref 2]) (by decide +kernel) (fun _ => rfl)).trans ?_
  refine (R_iaload (kd := 105) (n := L) (by decide +kernel) rfl (by decide) (h1)).trans ?_
  refine (R_pure0 (ins := .aload_n 0) (len := 1) (loc' := [.ref 0, .ref 2, .ref 68, .int x3]) (st' := [.ref 0, .int (mi 0 (x3 + 1).toNatClampNeg), .ref 2]) (by decide +kernel) (fun _ => rfl)).trans ?_
  refine (R_pure0 (ins := .iload_n 3) (len := 1) (loc' := [.ref 0, .ref 2, .ref 68, .int x3]) (st' := [.int x3, .ref 0, .int (mi 0 (x3 + 1).toNatClampNeg), .ref 2]) (by decide +kernel) (fun _ => rfl)).trans ?_
  refine (R_iconst (n := 2) (v := 2) (by decide +kernel) (by decide +kernel)).trans ?_
  refine (R_pure0 (ins := .iadd) (len := 1) (loc' := [.ref 0, .ref 2, .ref 68, .int x3]) (st' := [.int (x3 + 2), .ref 0, .int (mi 0 (x3 + 1).toNatClampNeg), .ref 2]) (by decide +kernel) (fun _ => rfl)).trans ?_
  refine (R_iaload (kd := 105) (n := L) (by decide +kernel) rfl (by decide) (h2)).trans ?_
  refine (R_virt (i := 110) (f := 122) (kd := 0) (na := 2) (ml := 6) (ci := 9) (n := 12) (b := 2) (As := [.int (mi 0 (x3 + 1).toNatClampNeg), .int (mi 0 (x3 + 2).toNatClampNeg)]) (rest := []) (by decide +kernel) (by decide +kernel) (by decide) (by decide +kernel) rfl (by decide +kernel) rfl rfl (by decide +kernel) (Nat.le_of_ble_eq_true rfl)).trans ?_
  rfl
set_option maxRecDepth 4000 in
theorem s241_909 {L : Nat} {mi : Nat → Nat → Int32} {ml : Nat → Nat → Int64} {d : Nat} {Q : Option Value → xM → Prop} {x3 y : Int32} (h1 : xin (x3 + 1) L = true) (h2 : xin (x3 + 2) L = true) : X 241 909 [.ref 0, .ref 2, .ref 68, .int x3] [.int y] (SH L, mi, ml, MR) (d + 1) Q =
    Xm 209 [.ref 68, .int (mi 0 (x3 + 1).toNatClampNeg), .int (mi 0 (x3 + 2).toNatClampNeg)] (SH L, mi, ml, MR) d (fun v μ' => X 241 923 [.ref 0, .ref 2, .ref 68, .int x3] (v.toList ++ [.int y]) μ' (d + 1) Q) := by
  refine (R_pure0 (ins := .aload_n 2) (len := 1) (loc' := [.ref 0, .ref 2, .ref 68, .int x3]) (st' := [.ref 68, .int y]) (by decide +kernel) (fun _ => rfl)).trans ?_
  refine (R_pure0 (ins := .aload_n 0) (len := 1) (loc' := [.ref 0, .ref 2, .ref 68, .int x3]) (st' := [.ref 0, .ref 68, .int y]) (by decide +kernel) (fun _ => rfl)).trans ?_
  refine (R_pure0 (ins := .iload_n 3) (len := 1) (loc' := [.ref 0, .ref 2, .ref 68, .int x3]) (st' := [.int x3, .ref 0, .ref 68, .int y]) (by decide +kernel) (fun _ => rfl)).trans ?_
  refine (R_iconst (n := 1) (v := 1) (by decide +kernel) (by decide +kernel)).trans ?_
  refine (R_pure0 (ins := .iadd) (len := 1) (loc' := [.ref 0, .ref 2, .ref 68, .int x3]) (st' := [.int (x3 + 1), .ref 0, .ref 68, .int y]) (by decide +kernel) (fun _ => rfl)).trans ?_
  refine (R_iaload (kd := 105) (n := L) (by decide +kernel) rfl (by decide) (h1)).trans ?_
  refine (R_pure0 (ins := .aload_n 0) (len := 1) (loc' := [.ref 0, .ref 2, .ref 68, .int x3]) (st' := [.ref 0, .int (mi 0 (x3 + 1).toNatClampNeg), .ref 68, .int y]) (by decide +kernel) (fun _ => rfl)).trans ?_
  refine (R_pure0 (ins := .iload_n 3) (len := 1) (loc' := [.ref 0, .ref 2, .ref 68, .int x3]) (st' := [.int x3, .ref 0, .int (mi 0 (x3 + 1).toNatClampNeg), .ref 68, .int y]) (by decide +kernel) (fun _ => rfl)).trans ?_
  refine (R_iconst (n := 2) (v := 2) (by decide +kernel) (by decide +kernel)).trans ?_
  refine (R_pure0 (ins := .iadd) (len := 1) (loc' := [.ref 0, .ref 2, .ref 68, .int x3]) (st' := [.int (x3 + 2), .ref 0, .int (mi 0 (x3 + 1).toNatClampNeg), .ref 68, .int y]) (by decide +kernel) (fun _ => rfl)).trans ?_
  refine (R_iaload (kd := 105) (n := L) (by decide +kernel) rfl (by decide) (h2)).trans ?_
  refine (R_virt (i := 113) (f := 209) (kd := 0) (na := 2) (ml := 9) (ci := 10) (n := 33) (b := 68) (As := [.int (mi 0 (x3 + 1).toNatClampNeg), .int (mi 0 (x3 + 2).toNatClampNeg)]) (rest := [.int y]) (by decide +kernel) (by decide +kernel) (by decide) (by decide +kernel) rfl (by decide +kernel) rfl rfl (by decide +kernel) (Nat.le_of_ble_eq_true rfl)).trans ?_
  rfl
set_option maxRecDepth 4000 in
theorem s241_923 {L : Nat} {mi : Nat → Nat → Int32} {ml : Nat → Nat → Int64} {d : Nat} {Q : Option Value → xM → Prop} {w x3 z0 : Int32} : X 241 923 [.ref 0, .ref 2, .ref 68, .int x3] [.int w, .int z0] (SH L, mi, ml, MR) d Q =
    if (z0 = w) then (X 241 1365 [.ref 0, .ref 2, .ref 68, .int x3] [] (SH L, mi, ml, MR) d Q) else (Q (some (.int 0)) (SH L, mi, ml, MR)) := by
  refine (R_icmp_eq (off := 442) (t := 1365) (by decide +kernel) (by decide +kernel)).trans (ite_congr rfl (fun c0 => ?_) (fun c0 => ?_))
  · rfl
  · refine (R_iconst (n := 0) (v := 0) (by decide +kernel) (by decide +kernel)).trans ?_
    exact R_zreturn (by decide +kernel) (by decide +kernel) (by decide)
set_option maxRecDepth 4000 in
theorem s241_928 {L : Nat} {mi : Nat → Nat → Int32} {ml : Nat → Nat → Int64} {d : Nat} {Q : Option Value → xM → Prop} {x3 : Int32} (h1 : xin (x3 + 1) L = true) : X 241 928 [.ref 0, .ref 2, .ref 68, .int x3] [] (SH L, mi, ml, MR) (d + 1) Q =
    Xm 123 [.ref 2, .int (mi 0 (x3 + 1).toNatClampNeg)] (SH L, mi, ml, MR) d (fun v μ' => X 241 937 [.ref 0, .ref 2, .ref 68, .int x3] (v.toList ++ []) μ' (d + 1) Q) := by
  refine (R_pure0 (ins := .aload_n 1) (len := 1) (loc' := [.ref 0, .ref 2, .ref 68, .int x3]) (st' := [.ref 2]) (by decide +kernel) (fun _ => rfl)).trans ?_
  refine (R_pure0 (ins := .aload_n 0) (len := 1) (loc' := [.ref 0, .ref 2, .ref 68, .int x3]) (st' := [.ref 0, .ref 2]) (by decide +kernel) (fun _ => rfl)).trans ?_
  refine (R_pure0 (ins := .iload_n 3) (len := 1) (loc' := [.ref 0, .ref 2, .ref 68, .int x3]) (st' := [.int x3, .ref 0, .ref 2]) (by decide +kernel) (fun _ => rfl)).trans ?_
  refine (R_iconst (n := 1) (v := 1) (by decide +kernel) (by decide +kernel)).trans ?_
  refine (R_pure0 (ins := .iadd) (len := 1) (loc' := [.ref 0, .ref 2, .ref 68, .int x3]) (st' := [.int (x3 + 1), .ref 0, .ref 2]) (by decide +kernel) (fun _ => rfl)).trans ?_
  refine (R_iaload (kd := 105) (n := L) (by decide +kernel) rfl (by decide) (h1)).trans ?_
  refine (R_virt (i := 114) (f := 123) (kd := 0) (na := 1) (ml := 3) (ci := 9) (n := 12) (b := 2) (As := [.int (mi 0 (x3 + 1).toNatClampNeg)]) (rest := []) (by decide +kernel) (by decide +kernel) (by decide) (by decide +kernel) rfl (by decide +kernel) rfl rfl (by decide +kernel) (Nat.le_of_ble_eq_true rfl)).trans ?_
  rfl
set_option maxRecDepth 4000 in
theorem s241_937 {L : Nat} {mi : Nat → Nat → Int32} {ml : Nat → Nat → Int64} {d : Nat} {Q : Option Value → xM → Prop} {x3 y : Int32} (h1 : xin (x3 + 1) L = true) : X 241 937 [.ref 0, .ref 2, .ref 68, .int x3] [.int y] (SH L, mi, ml, MR) (d + 1) Q =
    Xm 212 [.ref 68, .int (mi 0 (x3 + 1).toNatClampNeg)] (SH L, mi, ml, MR) d (fun v μ' => X 241 946 [.ref 0, .ref 2, .ref 68, .int x3] (v.toList ++ [.int y]) μ' (d + 1) Q) := by
  refine (R_pure0 (ins := .aload_n 2) (len := 1) (loc' := [.ref 0, .ref 2, .ref 68, .int x3]) (st' := [.ref 68, .int y]) (by decide +kernel) (fun _ => rfl)).trans ?_
  refine (R_pure0 (ins := .aload_n 0) (len := 1) (loc' := [.ref 0, .ref 2, .ref 68, .int x3]) (st' := [.ref 0, .ref 68, .int y]) (by decide +kernel) (fun _ => rfl)).trans ?_
  refine (R_pure0 (ins := .iload_n 3) (len := 1) (loc' := [.ref 0, .ref 2, .ref 68, .int x3]) (st' := [.int x3, .ref 0, .ref 68, .int y]) (by decide +kernel) (fun _ => rfl)).trans ?_
  refine (R_iconst (n := 1) (v := 1) (by decide +kernel) (by decide +kernel)).trans ?_
  refine (R_pure0 (ins := .iadd) (len := 1) (loc' := [.ref 0, .ref 2, .ref 68, .int x3]) (st' := [.int (x3 + 1), .ref 0, .ref 68, .int y]) (by decide +kernel) (fun _ => rfl)).trans ?_
  refine (R_iaload (kd := 105) (n := L) (by decide +kernel) rfl (by decide) (h1)).trans ?_
  refine (R_virt (i := 117) (f := 212) (kd := 0) (na := 1) (ml := 3) (ci := 10) (n := 33) (b := 68) (As := [.int (mi 0 (x3 + 1).toNatClampNeg)]) (rest := [.int y]) (by decide +kernel) (by decide +kernel) (by decide) (by decide +kernel) rfl (by decide +kernel) rfl rfl (by decide +kernel) (Nat.le_of_ble_eq_true rfl)).trans ?_
  rfl
set_option maxRecDepth 4000 in
theorem s241_946 {L : Nat} {mi : Nat → Nat → Int32} {ml : Nat → Nat → Int64} {d : Nat} {Q : Option Value → xM → Prop} {w x3 z0 : Int32} : X 241 946 [.ref 0, .ref 2, .ref 68, .int x3] [.int w, .int z0] (SH L, mi, ml, MR) d Q =
    if (z0 = w) then (X 241 1365 [.ref 0, .ref 2, .ref 68, .int x3] [] (SH L, mi, ml, MR) d Q) else (Q (some (.int 0)) (SH L, mi, ml, MR)) := by
  refine (R_icmp_eq (off := 419) (t := 1365) (by decide +kernel) (by decide +kernel)).trans (ite_congr rfl (fun c0 => ?_) (fun c0 => ?_))
  · rfl
  · refine (R_iconst (n := 0) (v := 0) (by decide +kernel) (by decide +kernel)).trans ?_
    exact R_zreturn (by decide +kernel) (by decide +kernel) (by decide)
set_option maxRecDepth 4000 in
theorem s241_951 {L : Nat} {mi : Nat → Nat → Int32} {ml : Nat → Nat → Int64} {d : Nat} {Q : Option Value → xM → Prop} {x3 : Int32} (h1 : xin (x3 + 1) L = true) : X 241 951 [.ref 0, .ref 2, .ref 68, .int x3] [] (SH L, mi, ml, MR) (d + 1) Q =
    Xm 124 [.ref 2, .int (mi 0 (x3 + 1).toNatClampNeg)] (SH L, mi, ml, MR) d (fun v μ' => X 241 960 [.ref 0, .ref 2, .ref 68, .int x3] (v.toList ++ []) μ' (d + 1) Q) := by
  refine (R_pure0 (ins := .aload_n 1) (len := 1) (loc' := [.ref 0, .ref 2, .ref 68, .int x3]) (st' := [.ref 2]) (by decide +kernel) (fun _ => rfl)).trans ?_
  refine (R_pure0 (ins := .aload_n 0) (len := 1) (loc' := [.ref 0, .ref 2, .ref 68, .int x3]) (st' := [.ref 0, .ref 2]) (by decide +kernel) (fun _ => rfl)).trans ?_
  refine (R_pure0 (ins := .iload_n 3) (len := 1) (loc' := [.ref 0, .ref 2, .ref 68, .int x3]) (st' := [.int x3, .ref 0, .ref 2]) (by decide +kernel) (fun _ => rfl)).trans ?_
  refine (R_iconst (n := 1) (v := 1) (by decide +kernel) (by decide +kernel)).trans ?_
  refine (R_pure0 (ins := .iadd) (len := 1) (loc' := [.ref 0, .ref 2, .ref 68, .int x3]) (st' := [.int (x3 + 1), .ref 0, .ref 2]) (by decide +kernel) (fun _ => rfl)).trans ?_
  refine (R_iaload (kd := 105) (n := L) (by decide +kernel) rfl (by decide) (h1)).trans ?_
  refine (R_virt (i := 118) (f := 124) (kd := 0) (na := 1) (ml := 3) (ci := 9) (n := 12) (b := 2) (As := [.int (mi 0 (x3 + 1).toNatClampNeg)]) (rest := []) (by decide +kernel) (by decide +kernel) (by decide) (by decide +kernel) rfl (by decide +kernel) rfl rfl (by decide +kernel) (Nat.le_of_ble_eq_true rfl)).trans ?_
  rfl
set_option maxRecDepth 4000 in
theorem s241_960 {L : Nat} {mi : Nat → Nat → Int32} {ml : Nat → Nat → Int64} {d : Nat} {Q : Option Value → xM → Prop} {x3 y : Int32} (h1 : xin (x3 + 1) L = true) : X 241 960 [.ref 0, .ref 2, .ref 68, .int x3] [.int y] (SH L, mi, ml, MR) (d + 1) Q =
    Xm 213 [.ref 68, .int (mi 0 (x3 + 1).toNatClampNeg)] (SH L, mi, ml, MR) d (fun v μ' => X 241 969 [.ref 0, .ref 2, .ref 68, .int x3] (v.toList ++ [.int y]) μ' (d + 1) Q) := by
  refine (R_pure0 (ins := .aload_n 2) (len := 1) (loc' := [.ref 0, .ref 2, .ref 68, .int x3]) (st' := [.ref 68, .int y]) (by decide +kernel) (fun _ => rfl)).trans ?_
  refine (R_pure0 (ins := .aload_n 0) (len := 1) (loc' := [.ref 0, .ref 2, .ref 68, .int x3]) (st' := [.ref 0, .ref 68, .int y]) (by decide +kernel) (fun _ => rfl)).trans ?_
  refine (R_pure0 (ins := .iload_n 3) (len := 1) (loc' := [.ref 0, .ref 2, .ref 68, .int x3]) (st' := [.int x3, .ref 0, .ref 68, .int y]) (by decide +kernel) (fun _ => rfl)).trans ?_
  refine (R_iconst (n := 1) (v := 1) (by decide +kernel) (by decide +kernel)).trans ?_
  refine (R_pure0 (ins := .iadd) (len := 1) (loc' := [.ref 0, .ref 2, .ref 68, .int x3]) (st' := [.int (x3 + 1), .ref 0, .ref 68, .int y]) (by decide +kernel) (fun _ => rfl)).trans ?_
  refine (R_iaload (kd := 105) (n := L) (by decide +kernel) rfl (by decide) (h1)).trans ?_
  refine (R_virt (i := 121) (f := 213) (kd := 0) (na := 1) (ml := 3) (ci := 10) (n := 33) (b := 68) (As := [.int (mi 0 (x3 + 1).toNatClampNeg)]) (rest := [.int y]) (by decide +kernel) (by decide +kernel) (by decide) (by decide +kernel) rfl (by decide +kernel) rfl rfl (by decide +kernel) (Nat.le_of_ble_eq_true rfl)).trans ?_
  rfl
set_option maxRecDepth 4000 in
theorem s241_969 {L : Nat} {mi : Nat → Nat → Int32} {ml : Nat → Nat → Int64} {d : Nat} {Q : Option Value → xM → Prop} {w x3 z0 : Int32} : X 241 969 [.ref 0, .ref 2, .ref 68, .int x3] [.int w, .int z0] (SH L, mi, ml, MR) d Q =
    if (z0 = w) then (X 241 1365 [.ref 0, .ref 2, .ref 68, .int x3] [] (SH L, mi, ml, MR) d Q) else (Q (some (.int 0)) (SH L, mi, ml, MR)) := by
  refine (R_icmp_eq (off := 396) (t := 1365) (by decide +kernel) (by decide +kernel)).trans (ite_congr rfl (fun c0 => ?_) (fun c0 => ?_))
  · rfl
  · refine (R_iconst (n := 0) (v := 0) (by decide +kernel) (by decide +kernel)).trans ?_
    exact R_zreturn (by decide +kernel) (by decide +kernel) (by decide)
set_option maxRecDepth 4000 in
theorem s241_974 {L : Nat} {mi : Nat → Nat → Int32} {ml : Nat → Nat → Int64} {d : Nat} {Q : Option Value → xM → Prop} {x3 : Int32} (h1 : xin (x3 + 1) L = true) : X 241 974 [.ref 0, .ref 2, .ref 68, .int x3] [] (SH L, mi, ml, MR) (d + 1) Q =
    Xm 125 [.ref 2, .int (mi 0 (x3 + 1).toNatClampNeg)] (SH L, mi, ml, MR) d (fun v μ' => X 241 983 [.ref 0, .ref 2, .ref 68, .int x3] (v.toList ++ []) μ' (d + 1) Q) := by
  refine (R_pure0 (ins := .aload_n 1) (len := 1) (loc' := [.ref 0, .ref 2, .ref 68, .int x3]) (st' := [.ref 2]) (by decide +kernel) (fun _ => rfl)).trans ?_
  refine (R_pure0 (ins := .aload_n 0) (len := 1) (loc' := [.ref 0, .ref 2, .ref 68, .int x3]) (st' := [.ref 0, .ref 2]) (by decide +kernel) (fun _ => rfl)).trans ?_
  refine (R_pure0 (ins := .iload_n 3) (len := 1) (loc' := [.ref 0, .ref 2, .ref 68, .int x3]) (st' := [.int x3, .ref 0, .ref 2]) (by decide +kernel) (fun _ => rfl)).trans ?_
  refine (R_iconst (n := 1) (v := 1) (by decide +kernel) (by decide +kernel)).trans ?_
  refine (R_pure0 (ins := .iadd) (len := 1) (loc' := [.ref 0, .ref 2, .ref 68, .int x3]) (st' := [.int (x3 + 1), .ref 0, .ref 2]) (by decide +kernel) (fun _ => rfl)).trans ?_
  refine (R_iaload (kd := 105) (n := L) (by decide +kernel) rfl (by decide) (h1)).trans ?_
  refine (R_virt (i := 122) (f := 125) (kd := 0) (na := 1) (ml := 7) (ci := 9) (n := 12) (b := 2) (As := [.int (mi 0 (x3 + 1).toNatClampNeg)]) (rest := []) (by decide +kernel) (by decide +kernel) (by decide) (by decide +kernel) rfl (by decide +kernel) rfl rfl (by decide +kernel) (Nat.le_of_ble_eq_true rfl)).trans ?_
  rfl
set_option maxRecDepth 4000 in
theorem s241_983 {L : Nat} {mi : Nat → Nat → Int32} {ml : Nat → Nat → Int64} {d : Nat} {Q : Option Value → xM → Prop} {x3 y : Int32} (h1 : xin (x3 + 1) L = true) : X 241 983 [.ref 0, .ref 2, .ref 68, .int x3] [.int y] (SH L, mi, ml, MR) (d + 1) Q =
    Xm 214 [.ref 68, .int (mi 0 (x3 + 1).toNatClampNeg)] (SH L, mi, ml, MR) d (fun v μ' => X 241 992 [.ref 0, .ref 2, .ref 68, .int x3] (v.toList ++ [.int y]) μ' (d + 1) Q) := by
  refine (R_pure0 (ins := .aload_n 2) (len := 1) (loc' := [.ref 0, .ref 2, .ref 68, .int x3]) (st' := [.ref 68, .int y]) (by decide +kernel) (fun _ => rfl)).trans ?_
  refine (R_pure0 (ins := .aload_n 0) (len := 1) (loc' := [.ref 0, .ref 2, .ref 68, .int x3]) (st' := [.ref 0, .ref 68, .int y]) (by decide +kernel) (fun _ => rfl)).trans ?_
  refine (R_pure0 (ins := .iload_n 3) (len := 1) (loc' := [.ref 0, .ref 2, .ref 68, .int x3]) (st' := [.int x3, .ref 0, .ref 68, .int y]) (by decide +kernel) (fun _ => rfl)).trans ?_
  refine (R_iconst (n := 1) (v := 1) (by decide +kernel) (by decide +kernel)).trans ?_
  refine (R_pure0 (ins := .iadd) (len := 1) (loc' := [.ref 0, .ref 2, .ref 68, .int x3]) (st' := [.int (x3 + 1), .ref 0, .ref 68, .int y]) (by decide +kernel) (fun _ => rfl)).trans ?_
  refine (R_iaload (kd := 105) (n := L) (by decide +kernel) rfl (by decide) (h1)).trans ?_
  refine (R_virt (i := 125) (f := 214) (kd := 0) (na := 1) (ml := 6) (ci := 10) (n := 33) (b := 68) (As := [.int (mi 0 (x3 + 1).toNatClampNeg)]) (rest := [.int y]) (by decide +kernel) (by decide +kernel) (by decide) (by decide +kernel) rfl (by decide +kernel) rfl rfl (by decide +kernel) (Nat.le_of_ble_eq_true rfl)).trans ?_
  rfl
set_option maxRecDepth 4000 in
theorem s241_992 {L : Nat} {mi : Nat → Nat → Int32} {ml : Nat → Nat → Int64} {d : Nat} {Q : Option Value → xM → Prop} {w x3 z0 : Int32} : X 241 992 [.ref 0, .ref 2, .ref 68, .int x3] [.int w, .int z0] (SH L, mi, ml, MR) d Q =
    if (z0 = w) then (X 241 1365 [.ref 0, .ref 2, .ref 68, .int x3] [] (SH L, mi, ml, MR) d Q) else (Q (some (.int 0)) (SH L, mi, ml, MR)) := by
  refine (R_icmp_eq (off := 373) (t := 1365) (by decide +kernel) (by decide +kernel)).trans (ite_congr rfl (fun c0 => ?_) (fun c0 => ?_))
  · rfl
  · refine (R_iconst (n := 0) (v := 0) (by decide +kernel) (by decide +kernel)).trans ?_
    exact R_zreturn (by decide +kernel) (by decide +kernel) (by decide)
set_option maxRecDepth 4000 in
theorem s241_997 {L : Nat} {mi : Nat → Nat → Int32} {ml : Nat → Nat → Int64} {d : Nat} {Q : Option Value → xM → Prop} {x3 : Int32} (h1 : xin (x3 + 1) L = true) (h2 : xin (x3 + 2) L = true) : X 241 997 [.ref 0, .ref 2, .ref 68, .int x3] [] (SH L, mi, ml, MR) (d + 1) Q =
    Xm 126 [.ref 2, .int (mi 0 (x3 + 1).toNatClampNeg), .int (mi 0 (x3 + 2).toNatClampNeg)] (SH L, mi, ml, MR) d (fun v μ' => X 241 1011 [.ref 0, .ref 2, .ref 68, .int x3] (v.toList ++ []) μ' (d + 1) Q) := by
  refine (R_pure0 (ins := .aload_n 1) (len := 1) (loc' := [.ref 0, .ref 2, .ref 68, .int x3]) (st' := [.ref 2]) (by decide +kernel) (fun _ => rfl)).trans ?_
  refine (R_pure0 (ins := .aload_n 0) (len := 1) (loc' := [.ref 0, .ref 2, .ref 68, .int x3]) (st' := [.ref 0, .ref 2]) (by decide +kernel) (fun _ => rfl)).trans ?_
  refine (R_pure0 (ins := .iload_n 3) (len := 1) (loc' := [.ref 0, .ref 2, .ref 68, .int x3]) (st' := [.int x3, .ref 0, .ref 2]) (by decide +kernel) (fun _ => rfl)).trans ?_
  refine (R_iconst (n := 1) (v := 1) (by decide +kernel) (by decide +kernel)).trans ?_
  refine (R_pure0 (ins := .iadd) (len := 1) (loc' := [.ref 0, .ref 2, .ref 68, .int x3]) (st' := [.int (x3 + 1), .ref 0, .ref 2]) (by decide +kernel) (fun _ => rfl)).trans ?_
  refine (R_iaload (kd := 105) (n := L) (by decide +kernel) rfl (by decide) (h1)).trans ?_
  refine (R_pure0 (ins := .aload_n 0) (len := 1) (loc' := [.ref 0, .ref 2, .ref 68, .int x3]) (st' := [.ref 0, .int (mi 0 (x3 + 1).toNatClampNeg), .ref 2]) (by decide +kernel) (fun _ => rfl)).trans ?_
  refine (R_pure0 (ins := .iload_n 3) (len := 1) (loc' := [.ref 0, .ref 2, .ref 68, .int x3]) (st' := [.int x3, .ref 0, .int (mi 0 (x3 + 1).toNatClampNeg), .ref 2]) (by decide +kernel) (fun _ => rfl)).trans ?_
  refine (R_iconst (n := 2) (v := 2) (by decide +kernel) (by decide +kernel)).trans ?_
  refine (R_pure0 (ins := .iadd) (len := 1) (loc' := [.ref 0, .ref 2, .ref 68, .int x3]) (st' := [.int (x3 + 2), .ref 0, .int (mi 0 (x3 + 1).toNatClampNeg), .ref 2]) (by decide +kernel) (fun _ => rfl)).trans ?_
  refine (R_iaload (kd := 105) (n := L) (by decide +kernel) rfl (by decide) (h2)).trans ?_
  refine (R_virt (i := 126) (f := 126) (kd := 0) (na := 2) (ml := 5) (ci := 9) (n := 12) (b := 2) (As := [.int (mi 0 (x3 + 1).toNatClampNeg), .int (mi 0 (x3 + 2).toNatClampNeg)]) (rest := []) (by decide +kernel) (by decide +kernel) (by decide) (by decide +kernel) rfl (by decide +kernel) rfl rfl (by decide +kernel) (Nat.le_of_ble_eq_true rfl)).trans ?_
  rfl
set_option maxRecDepth 4000 in
theorem s241_1011 {L : Nat} {mi : Nat → Nat → Int32} {ml : Nat → Nat → Int64} {d : Nat} {Q : Option Value → xM → Prop} {x3 y : Int32} (h1 : xin (x3 + 1) L = true) (h2 : xin (x3 + 2) L = true) : X 241 1011 [.ref 0, .ref 2, .ref 68, .int x3] [.int y] (SH L, mi, ml, MR) (d + 1) Q =
    Xm 217 [.ref 68, .int (mi 0 (x3 + 1).toNatClampNeg), .int (mi 0 (x3 + 2).toNatClampNeg)] (SH L, mi, ml, MR) d (fun v μ' => X 241 1025 [.ref 0, .ref 2, .ref 68, .int x3] (v.toList ++ [.int y]) μ' (d + 1) Q) := by
  refine (R_pure0 (ins := .aload_n 2) (len := 1) (loc' := [.ref 0, .ref 2, .ref 68, .int x3]) (st' := [.ref 68, .int y]) (by decide +kernel) (fun _ => rfl)).trans ?_
  refine (R_pure0 (ins := .aload_n 0) (len := 1) (loc' := [.ref 0, .ref 2, .ref 68, .int x3]) (st' := [.ref 0, .ref 68, .int y]) (by decide +kernel) (fun _ => rfl)).trans ?_
  refine (R_pure0 (ins := .iload_n 3) (len := 1) (loc' := [.ref 0, .ref 2, .ref 68, .int x3]) (st' := [.int x3, .ref 0, .ref 68, .int y]) (by decide +kernel) (fun _ => rfl)).trans ?_
  refine (R_iconst (n := 1) (v := 1) (by decide +kernel) (by decide +kernel)).trans ?_
  refine (R_pure0 (ins := .iadd) (len := 1) (loc' := [.ref 0, .ref 2, .ref 68, .int x3]) (st' := [.int (x3 + 1), .ref 0, .ref 68, .int y]) (by decide +kernel) (fun _ => rfl)).trans ?_
  refine (R_iaload (kd := 105) (n := L) (by decide +kernel) rfl (by decide) (h1)).trans ?_
  refine (R_pure0 (ins := .aload_n 0) (len := 1) (loc' := [.ref 0, .ref 2, .ref 68, .int x3]) (st' := [.ref 0, .int (mi 0 (x3 + 1).toNatClampNeg), .ref 68, .int y]) (by decide +kernel) (fun _ => rfl)).trans ?_
  refine (R_pure0 (ins := .iload_n 3) (len := 1) (loc' := [.ref 0, .ref 2, .ref 68, .int x3]) (st' := [.int x3, .ref 0, .int (mi 0 (x3 + 1).toNatClampNeg), .ref 68, .int y]) (by decide +kernel) (fun _ => rfl)).trans ?_
  refine (R_iconst (n := 2) (v := 2) (by decide +kernel) (by decide +kernel)).trans ?_
  refine (R_pure0 (ins := .iadd) (len := 1) (loc' := [.ref 0, .ref 2, .ref 68, .int x3]) (st' := [.int (x3 + 2), .ref 0, .int (mi 0 (x3 + 1).toNatClampNeg), .ref 68, .int y]) (by decide +kernel) (fun _ => rfl)).trans ?_
  refine (R_iaload (kd := 105) (n := L) (by decide +kernel) rfl (by decide) (h2)).trans ?_
  refine (R_virt (i := 129) (f := 217) (kd := 0) (na := 2) (ml := 6) (ci := 10) (n := 33) (b := 68) (As := [.int (mi 0 (x3 + 1).toNatClampNeg), .int (mi 0 (x3 + 2).toNatClampNeg)]) (rest := [.int y]) (by decide +kernel) (by decide +kernel) (by decide) (by decide +kernel) rfl (by decide +kernel) rfl rfl (by decide +kernel) (Nat.le_of_ble_eq_true rfl)).trans ?_
  rfl
set_option maxRecDepth 4000 in
theorem s241_1025 {L : Nat} {mi : Nat → Nat → Int32} {ml : Nat → Nat → Int64} {d : Nat} {Q : Option Value → xM → Prop} {w x3 z0 : Int32} : X 241 1025 [.ref 0, .ref 2, .ref 68, .int x3] [.int w, .int z0] (SH L, mi, ml, MR) d Q =
    if (z0 = w) then (X 241 1365 [.ref 0, .ref 2, .ref 68, .int x3] [] (SH L, mi, ml, MR) d Q) else (Q (some (.int 0)) (SH L, mi, ml, MR)) := by
  refine (R_icmp_eq (off := 340) (t := 1365) (by decide +kernel) (by decide +kernel)).trans (ite_congr rfl (fun c0 => ?_) (fun c0 => ?_))
  · rfl
  · refine (R_iconst (n := 0) (v := 0) (by decide +kernel) (by decide +kernel)).trans ?_
    exact R_zreturn (by decide +kernel) (by decide +kernel) (by decide)
set_option maxRecDepth 4000 in
theorem s241_1030 {L : Nat} {mi : Nat → Nat → Int32} {ml : Nat → Nat → Int64} {d : Nat} {Q : Option Value → xM → Prop} {x3 : Int32} (h1 : xin (x3 + 1) L = true) (h2 : xin (x3 + 2) L = true) : X 241 1030 [.ref 0, .ref 2, .ref 68, .int x3] [] (SH L, mi, ml, MR) (d + 1) Q =
    Xm 127 [.ref 2, .int (mi 0 (x3 + 1).toNatClampNeg), .int (mi 0 (x3 + 2).toNatClampNeg)] (SH L, mi, ml, MR) d (fun v μ' => X 241 1044 [.ref 0, .ref 2, .ref 68, .int x3] (v.toList ++ []) μ' (d + 1) Q) := by
  refine (R_pure0 (ins := .aload_n 1) (len := 1) (loc' := [.ref 0, .ref 2, .ref 68, .int x3]) (st' := [.ref 2]) (by decide +kernel) (fun _ => rfl)).trans ?_
  refine (R_pure0 (ins := .aload_n 0) (len := 1) (loc' := [.ref 0, .ref 2, .ref 68, .int x3]) (st' := [.ref 0, .ref 2]) (by decide +kernel) (fun _ => rfl)).trans ?_
  refine (R_pure0 (ins := .iload_n 3) (len := 1) (loc' := [.ref 0, .ref 2, .ref 68, .int x3]) (st' := [.int x3, .ref 0, .ref 2]) (by decide +kernel) (fun _ => rfl)).trans ?_
  refine (R_iconst (n := 1) (v := 1) (by decide +kernel) (by decide +kernel)).trans ?_
  refine (R_pure0 (ins := .iadd) (len := 1) (loc' := [.ref 0, .ref 2, .ref 68, .int x3]) (st' := [.int (x3 + 1), .ref 0, .ref 2]) (by decide +kernel) (fun _ => rfl)).trans ?_
  refine (R_iaload (kd := 105) (n := L) (by decide +kernel) rfl (by decide) (h1)).trans ?_
  refine (R_pure0 (ins := .aload_n 0) (len := 1) (loc' := [.ref 0, .ref 2, .ref 68, .int x3]) (st' := [.ref 0, .int (mi 0 (x3 + 1).toNatClampNeg), .ref 2]) (by decide +kernel) (fun _ => rfl)).trans ?_
  refine (R_pure0 (ins := .iload_n 3) (len := 1) (loc' := [.ref 0, .ref 2, .ref 68, .int x3]) (st' := [.int x3, .ref 0, .int (mi 0 (x3 + 1).toNatClampNeg), .ref 2]) (by decide +kernel) (fun _ => rfl)).trans ?_
  refine (R_iconst (n := 2) (v := 2) (by decide +kernel) (by decide +kernel)).trans ?_
  refine (R_pure0 (ins := .iadd) (len := 1) (loc' := [.ref 0, .ref 2, .ref 68, .int x3]) (st' := [.int (x3 + 2), .ref 0, .int (mi 0 (x3 + 1).toNatClampNeg), .ref 2]) (by decide +kernel) (fun _ => rfl)).trans ?_
  refine (R_iaload (kd := 105) (n := L) (by decide +kernel) rfl (by decide) (h2)).trans ?_
  refine (R_virt (i := 130) (f := 127) (kd := 0) (na := 2) (ml := 5) (ci := 9) (n := 12) (b := 2) (As := [.int (mi 0 (x3 + 1).toNatClampNeg), .int (mi 0 (x3 + 2).toNatClampNeg)]) (rest := []) (by decide +kernel) (by decide +kernel) (by decide) (by decide +kernel) rfl (by decide +kernel) rfl rfl (by decide +kernel) (Nat.le_of_ble_eq_true rfl)).trans ?_
  rfl
set_option maxRecDepth 4000 in
theorem s241_1044 {L : Nat} {mi : Nat → Nat → Int32} {ml : Nat → Nat → Int64} {d : Nat} {Q : Option Value → xM → Prop} {x3 y : Int32} (h1 : xin (x3 + 1) L = true) (h2 : xin (x3 + 2) L = true) : X 241 1044 [.ref 0, .ref 2, .ref 68, .int x3] [.int y] (SH L, mi, ml, MR) (d + 1) Q =
    Xm 218 [.ref 68, .int (mi 0 (x3 + 1).toNatClampNeg), .int (mi 0 (x3 + 2).toNatClampNeg)] (SH L, mi, ml, MR) d (fun v μ' => X 241 1058 [.ref 0, .ref 2, .ref 68, .int x3] (v.toList ++ [.int y]) μ' (d + 1) Q) := by
  refine (R_pure0 (ins := .aload_n 2) (len := 1) (loc' := [.ref 0, .ref 2, .ref 68, .int x3]) (st' := [.ref 68, .int y]) (by decide +kernel) (fun _ => rfl)).trans ?_
  refine (R_pure0 (ins := .aload_n 0) (len := 1) (loc' := [.ref 0, .ref 2, .ref 68, .int x3]) (st' := [.ref 0, .ref 68, .int y]) (by decide +kernel) (fun _ => rfl)).trans ?_
  refine (R_pure0 (ins := .iload_n 3) (len := 1) (loc' := [.ref 0, .ref 2, .ref 68, .int x3]) (st' := [.int x3, .ref 0, .ref 68, .int y]) (by decide +kernel) (fun _ => rfl)).trans ?_
  refine (R_iconst (n := 1) (v := 1) (by decide +kernel) (by decide +kernel)).trans ?_
  refine (R_pure0 (ins := .iadd) (len := 1) (loc' := [.ref 0, .ref 2, .ref 68, .int x3]) (st' := [.int (x3 + 1), .ref 0, .ref 68, .int y]) (by decide +kernel) (fun _ => rfl)).trans ?_
  refine (R_iaload (kd := 105) (n := L) (by decide +kernel) rfl (by decide) (h1)).trans ?_
  refine (R_pure0 (ins := .aload_n 0) (len := 1) (loc' := [.ref 0, .ref 2, .ref 68, .int x3]) (st' := [.ref 0, .int (mi 0 (x3 + 1).toNatClampNeg), .ref 68, .int y]) (by decide +kernel) (fun _ => rfl)).trans ?_
  refine (R_pure0 (ins := .iload_n 3) (len := 1) (loc' := [.ref 0, .ref 2, .ref 68, .int x3]) (st' := [.int x3, .ref 0, .int (mi 0 (x3 + 1).toNatClampNeg), .ref 68, .int y]) (by decide +kernel) (fun _ => rfl)).trans ?_
  refine (R_iconst (n := 2) (v := 2) (by decide +kernel) (by decide +kernel)).trans ?_
  refine (R_pure0 (ins := .iadd) (len := 1) (loc' := [.ref 0, .ref 2, .ref 68, .int x3]) (st' := [.int (x3 + 2), .ref 0, .int (mi 0 (x3 + 1).toNatClampNeg), .ref 68, .int y]) (by decide +kernel) (fun _ => rfl)).trans ?_
  refine (R_iaload (kd := 105) (n := L) (by decide +kernel) rfl (by decide) (h2)).trans ?_
  refine (R_virt (i := 133) (f := 218) (kd := 0) (na := 2) (ml := 6) (ci := 10) (n := 33) (b := 68) (As := [.int (mi 0 (x3 + 1).toNatClampNeg), .int (mi 0 (x3 + 2).toNatClampNeg)]) (rest := [.int y]) (by decide +kernel) (by decide +kernel) (by decide) (by decide +kernel) rfl (by decide +kernel) rfl rfl (by decide +kernel) (Nat.le_of_ble_eq_true rfl)).trans ?_
  rfl
set_option maxRecDepth 4000 in
theorem s241_1058 {L : Nat} {mi : Nat → Nat → Int32} {ml : Nat → Nat → Int64} {d : Nat} {Q : Option Value → xM → Prop} {w x3 z0 : Int32} : X 241 1058 [.ref 0, .ref 2, .ref 68, .int x3] [.int w, .int z0] (SH L, mi, ml, MR) d Q =
    if (z0 = w) then (X 241 1365 [.ref 0, .ref 2, .ref 68, .int x3] [] (SH L, mi, ml, MR) d Q) else (Q (some (.int 0)) (SH L, mi, ml, MR)) := by
  refine (R_icmp_eq (off := 307) (t := 1365) (by decide +kernel) (by decide +kernel)).trans (ite_congr rfl (fun c0 => ?_) (fun c0 => ?_))
  · rfl
  · refine (R_iconst (n := 0) (v := 0) (by decide +kernel) (by decide +kernel)).trans ?_
    exact R_zreturn (by decide +kernel) (by decide +kernel) (by decide)
set_option maxRecDepth 4000 in
theorem s241_1063 {L : Nat} {mi : Nat → Nat → Int32} {ml : Nat → Nat → Int64} {d : Nat} {Q : Option Value → xM → Prop} {x3 : Int32} (h1 : xin (x3 + 1) L = true) (h2 : xin (x3 + 2) L = true) (h3 : xin (x3 + 3) L = true) : X 241 1063 [.ref 0, .ref 2, .ref 68, .int x3] [] (SH L, mi, ml, MR) (d + 1) Q =
    Xm 128 [.ref 2, .int (mi 0 (x3 + 1).toNatClampNeg), .int (mi 0 (x3 + 2).toNatClampNeg), .int (mi 0 (x3 + 3).toNatClampNeg)] (SH L, mi, ml, MR) d (fun v μ' => X 241 1082 [.ref 0, .ref 2, .ref 68, .int x3] (v.toList ++ []) μ' (d + 1) Q) := by
  refine (R_pure0 (ins := .aload_n 1) (len := 1) (loc' := [.ref 0, .ref 2, .ref 68, .int x3]) (st' := [.ref 2]) (by decide +kernel) (fun _ => rfl)).trans ?_
  refine (R_pure0 (ins := .aload_n 0) (len := 1) (loc' := [.ref 0, .ref 2, .ref 68, .int x3]) (st' := [.ref 0, .ref 2]) (by decide +kernel) (fun _ => rfl)).trans ?_
  refine (R_pure0 (ins := .iload_n 3) (len := 1) (loc' := [.ref 0, .ref 2, .ref 68, .int x3]) (st' := [.int x3, .ref 0, .ref 2]) (by decide +kernel) (fun _ => rfl)).trans ?_
  refine (R_iconst (n := 1) (v := 1) (by decide +kernel) (by decide +kernel)).trans ?_
  refine (R_pure0 (ins := .iadd) (len := 1) (loc' := [.ref 0, .ref 2, .ref 68, .int x3]) (st' := [.int (x3 + 1), .ref 0, .ref 2]) (by decide +kernel) (fun _ => rfl)).trans ?_
  refine (R_iaload (kd := 105) (n := L) (by decide +kernel) rfl (by decide) (h1)).trans ?_
  refine (R_pure0 (ins := .aload_n 0) (len := 1) (loc' := [.ref 0, .ref 2, .ref 68, .int x3]) (st' := [.ref 0, .int (mi 0 (x3 + 1).toNatClampNeg), .ref 2]) (by decide +kernel) (fun _ => rfl)).trans ?_
  refine (R_pure0 (ins := .iload_n 3) (len := 1) (loc' := [.ref 0, .ref 2, .ref 68, .int x3]) (st' := [.int x3, .ref 0, .int (mi 0 (x3 + 1).toNatClampNeg), .ref 2]) (by decide +kernel) (fun _ => rfl)).trans ?_
  refine (R_iconst (n := 2) (v := 2) (by decide +kernel) (by decide +kernel)).trans ?_
  refine (R_pure0 (ins := .iadd) (len := 1) (loc' := [.ref 0, .ref 2, .ref 68, .int x3]) (st' := [.int (x3 + 2), .ref 0, .int (mi 0 (x3 + 1).toNatClampNeg), .ref 2]) (by decide +kernel) (fun _ => rfl)).trans ?_
  refine (R_iaload (kd := 105) (n := L) (by decide +kernel) rfl (by decide) (h2)).trans ?_
  refine (R_pure0 (ins := .aload_n 0) (len := 1) (loc' := [.ref 0, .ref 2, .ref 68, .int x3]) (st' := [.ref 0, .int (mi 0 (x3 + 2).toNatClampNeg), .int (mi 0 (x3 + 1).toNatClampNeg), .ref 2]) (by decide +kernel) (fun _ => rfl)).trans ?_
  refine (R_pure0 (ins := .iload_n 3) (len := 1) (loc' := [.ref 0, .ref 2, .ref 68, .int x3]) (st' := [.int x3, .ref 0, .int (mi 0 (x3 + 2).toNatClampNeg), .int (mi 0 (x3 + 1).toNatClampNeg), .ref 2]) (by decide +kernel) (fun _ => rfl)).trans ?_
  refine (R_iconst (n := 3) (v := 3) (by decide +kernel) (by decide +kernel)).trans ?_
  refine (R_pure0 (ins := .iadd) (len := 1) (loc' := [.ref 0, .ref 2, .ref 68, .int x3]) (st' := [.int (x3 + 3), .ref 0, .int (mi 0 (x3 + 2).toNatClampNeg), .int (mi 0 (x3 + 1).toNatClampNeg), .ref 2]) (by decide +kernel) (fun _ => rfl)).trans ?_
  refine (R_iaload (kd := 105) (n := L) (by decide +kernel) rfl (by decide) (h3)).trans ?_
  refine (R_virt (i := 134) (f := 128) (kd := 0) (na := 3) (ml := 5) (ci := 9) (n := 12) (b := 2) (As := [.int (mi 0 (x3 + 1).toNatClampNeg), .int (mi 0 (x3 + 2).toNatClampNeg), .int (mi 0 (x3 + 3).toNatClampNeg)]) (rest := []) (by decide +kernel) (by decide +kernel) (by decide) (by decide +kernel) rfl (by decide +kernel) rfl rfl (by decide +kernel) (Nat.le_of_ble_eq_true rfl)).trans ?_
  rfl
set_option maxRecDepth 4000 in
theorem s241_1082 {L : Nat} {mi : Nat → Nat → Int32} {ml : Nat → Nat → Int64} {d : Nat} {Q : Option Value → xM → Prop} {x3 y : Int32} (h1 : xin (x3 + 1) L = true) (h2 : xin (x3 + 2) L = true) (h3 : xin (x3 + 3) L = true) : X 241 1082 [.ref 0, .ref 2, .ref 68, .int x3] [.int y] (SH L, mi, ml, MR) (d + 1) Q =
    Xm 220 [.ref 68, .int (mi 0 (x3 + 1).toNatClampNeg), .int (mi 0 (x3 + 2).toNatClampNeg), .int (mi 0 (x3 + 3).toNatClampNeg)] (SH L, mi, ml, MR) d (fun v μ' => X 241 1101 [.ref 0, .ref 2, .ref 68, .int x3] (v.toList ++ [.int y]) μ' (d + 1) Q) := by
  refine (R_pure0 (ins := .aload_n 2) (len := 1) (loc' := [.ref 0, .ref 2, .ref 68, .int x3]) (st' := [.ref 68, .int y]) (by decide +kernel) (fun _ => rfl)).trans ?_
  refine (R_pure0 (ins := .aload_n 0) (len := 1) (loc' := [.ref 0, .ref 2, .ref 68, .int x3]) (st' := [.ref 0, .ref 68, .int y]) (by decide +kernel) (fun _ => rfl)).trans ?_
  refine (R_pure0 (ins := .iload_n 3) (len := 1) (loc' := [.ref 0, .ref 2, .ref 68, .int x3]) (st' := [.int x3, .ref 0, .ref 68, .int y]) (by decide +kernel) (fun _ => rfl)).trans ?_
  refine (R_iconst (n := 1) (v := 1) (by decide +kernel) (by decide +kernel)).trans ?_
  refine (R_pure0 (ins := .iadd) (len := 1) (loc' := [.ref 0, .ref 2, .ref 68, .int x3]) (st' := [.int (x3 + 1), .ref 0, .ref 68, .int y]) (by decide +kernel) (fun _ => rfl)).trans ?_
  refine (R_iaload (kd := 105) (n := L) (by decide +kernel) rfl (by decide) (h1)).trans ?_
  refine (R_pure0 (ins := .aload_n 0) (len := 1) (loc' := [.ref 0, .ref 2, .ref 68, .int x3]) (st' := [.ref 0, .int (mi 0 (x3 + 1).toNatClampNeg), .ref 68, .int y]) (by decide +kernel) (fun _ => rfl)).trans ?_
  refine (R_pure0 (ins := .iload_n 3) (len := 1) (loc' := [.ref 0, .ref 2, .ref 68, .int x3]) (st' := [.int x3, .ref 0, .int (mi 0 (x3 + 1).toNatClampNeg), .ref 68, .int y]) (by decide +kernel) (fun _ => rfl)).trans ?_
  refine (R_iconst (n := 2) (v := 2) (by decide +kernel) (by decide +kernel)).trans ?_
  refine (R_pure0 (ins := .iadd) (len := 1) (loc' := [.ref 0, .ref 2, .ref 68, .int x3]) (st' := [.int (x3 + 2), .ref 0, .int (mi 0 (x3 + 1).toNatClampNeg), .ref 68, .int y]) (by decide +kernel) (fun _ => rfl)).trans ?_
  refine (R_iaload (kd := 105) (n := L) (by decide +kernel) rfl (by decide) (h2)).trans ?_
  refine (R_pure0 (ins := .aload_n 0) (len := 1) (loc' := [.ref 0, .ref 2, .ref 68, .int x3]) (st' := [.ref 0, .int (mi 0 (x3 + 2).toNatClampNeg), .int (mi 0 (x3 + 1).toNatClampNeg), .ref 68, .int y]) (by decide +kernel) (fun _ => rfl)).trans ?_
  refine (R_pure0 (ins := .iload_n 3) (len := 1) (loc' := [.ref 0, .ref 2, .ref 68, .int x3]) (st' := [.int x3, .ref 0, .int (mi 0 (x3 + 2).toNatClampNeg), .int (mi 0 (x3 + 1).toNatClampNeg), .ref 68, .int y]) (by decide +kernel) (fun _ => rfl)).trans ?_
  refine (R_iconst (n := 3) (v := 3) (by decide +kernel) (by decide +kernel)).trans ?_
  refine (R_pure0 (ins := .iadd) (len := 1) (loc' := [.ref 0, .ref 2, .ref 68, .int x3]) (st' := [.int (x3 + 3), .ref 0, .int (mi 0 (x3 + 2).toNatClampNeg), .int (mi 0 (x3 + 1).toNatClampNeg), .ref 68, .int y]) (by decide +kernel) (fun _ => rfl)).trans ?_
  refine (R_iaload (kd := 105) (n := L) (by decide +kernel) rfl (by decide) (h3)).trans ?_
  refine (R_virt (i := 137) (f := 220) (kd := 0) (na := 3) (ml := 8) (ci := 10) (n := 33) (b := 68) (As := [.int (mi 0 (x3 + 1).toNatClampNeg), .int (mi 0 (x3 + 2).toNatClampNeg), .int (mi 0 (x3 + 3).toNatClampNeg)]) (rest := [.int y]) (by decide +kernel) (by decide +kernel) (by decide) (by decide +kernel) rfl (by decide +kernel) rfl rfl (by decide +kernel) (Nat.le_of_ble_eq_true rfl)).trans ?_
  rfl
set_option maxRecDepth 4000 in
theorem s241_1101 {L : Nat} {mi : Nat → Nat → Int32} {ml : Nat → Nat → Int64} {d : Nat} {Q : Option Value → xM → Prop} {w x3 z0 : Int32} : X 241 1101 [.ref 0, .ref 2, .ref 68, .int x3] [.int w, .int z0] (SH L, mi, ml, MR) d Q =
    if (z0 = w) then (X 241 1365 [.ref 0, .ref 2, .ref 68, .int x3] [] (SH L, mi, ml, MR) d Q) else (Q (some (.int 0)) (SH L, mi, ml, MR)) := by
  refine (R_icmp_eq (off := 264) (t := 1365) (by decide +kernel) (by decide +kernel)).trans (ite_congr rfl (fun c0 => ?_) (fun c0 => ?_))
  · rfl
  · refine (R_iconst (n := 0) (v := 0) (by decide +kernel) (by decide +kernel)).trans ?_
    exact R_zreturn (by decide +kernel) (by decide +kernel) (by decide)
set_option maxRecDepth 4000 in
theorem s241_1106 {L : Nat} {mi : Nat → Nat → Int32} {ml : Nat → Nat → Int64} {d : Nat} {Q : Option Value → xM → Prop} {x3 : Int32} (h1 : xin (x3 + 1) L = true) (h2 : xin (x3 + 2) L = true) : X 241 1106 [.ref 0, .ref 2, .ref 68, .int x3] [] (SH L, mi, ml, MR) (d + 1) Q =
    Xm 129 [.ref 2, .int (mi 0 (x3 + 1).toNatClampNeg), .int (mi 0 (x3 + 2).toNatClampNeg)] (SH L, mi, ml, MR) d (fun v μ' => X 241 1120 [.ref 0, .ref 2, .ref 68, .int x3] (v.toList ++ []) μ' (d + 1) Q) := by
  refine (R_pure0 (ins := .aload_n 1) (len := 1) (loc' := [.ref 0, .ref 2, .ref 68, .int x3]) (st' := [.ref 2]) (by decide +kernel) (fun _ => rfl)).trans ?_
  refine (R_pure0 (ins := .aload_n 0) (len := 1) (loc' := [.ref 0, .ref 2, .ref 68, .int x3]) (st' := [.ref 0, .ref 2]) (by decide +kernel) (fun _ => rfl)).trans ?_
  refine (R_pure0 (ins := .iload_n 3) (len := 1) (loc' := [.ref 0, .ref 2, .ref 68, .int x3]) (st' := [.int x3, .ref 0, .ref 2]) (by decide +kernel) (fun _ => rfl)).trans ?_
  refine (R_iconst (n := 1) (v := 1) (by decide +kernel) (by decide +kernel)).trans ?_
  refine (R_pure0 (ins := .iadd) (len := 1) (loc' := [.ref 0, .ref 2, .ref 68, .int x3]) (st' := [.int (x3 + 1), .ref 0, .ref 2]) (by decide +kernel) (fun _ => rfl)).trans ?_
  refine (R_iaload (kd := 105) (n := L) (by decide +kernel) rfl (by decide) (h1)).trans ?_
  refine (R_pure0 (ins := .aload_n 0) (len := 1) (loc' := [.ref 0, .ref 2, .ref 68, .int x3]) (st' := [.ref 0, .int (mi 0 (x3 + 1).toNatClampNeg), .ref 2]) (by decide +kernel) (fun _ => rfl)).trans ?_
  refine (R_pure0 (ins := .iload_n 3) (len := 1) (loc' := [.ref 0, .ref 2, .ref 68, .int x3]) (st' := [.int x3, .ref 0, .int (mi 0 (x3 + 1).toNatClampNeg), .ref 2]) (by decide +kernel) (fun _ => rfl)).trans ?_
  refine (R_iconst (n := 2) (v := 2) (by decide +kernel) (by decide +kernel)).trans ?_
  refine (R_pure0 (ins := .iadd) (len := 1) (loc' := [.ref 0, .ref 2, .ref 68, .int x3]) (st' := [.int (x3 + 2), .ref 0, .int (mi 0 (x3 + 1).toNatClampNeg), .ref 2]) (by decide +kernel) (fun _ => rfl)).trans ?_
  refine (R_iaload (kd := 105) (n := L) (by decide +kernel) rfl (by decide) (h2)).trans ?_
  refine (R_virt (i := 138) (f := 129) (kd := 0) (na := 2) (ml := 5) (ci := 9) (n := 12) (b := 2) (As := [.int (mi 0 (x3 + 1).toNatClampNeg), .int (mi 0 (x3 + 2).toNatClampNeg)]) (rest := []) (by decide +kernel) (by decide +kernel) (by decide) (by decide +kernel) rfl (by decide +kernel) rfl rfl (by decide +kernel) (Nat.le_of_ble_eq_true rfl)).trans ?_
  rfl
set_option maxRecDepth 4000 in
theorem s241_1120 {L : Nat} {mi : Nat → Nat → Int32} {ml : Nat → Nat → Int64} {d : Nat} {Q : Option Value → xM → Prop} {x3 y : Int32} (h1 : xin (x3 + 1) L = true) (h2 : xin (x3 + 2) L = true) : X 241 1120 [.ref 0, .ref 2, .ref 68, .int x3] [.int y] (SH L, mi, ml, MR) (d + 1) Q =
    Xm 221 [.ref 68, .int (mi 0 (x3 + 1).toNatClampNeg), .int (mi 0 (x3 + 2).toNatClampNeg)] (SH L, mi, ml, MR) d (fun v μ' => X 241 1134 [.ref 0, .ref 2, .ref 68, .int x3] (v.toList ++ [.int y]) μ' (d + 1) Q) := by
  refine (R_pure0 (ins := .aload_n 2) (len := 1) (loc' := [.ref 0, .ref 2, .ref 68, .int x3]) (st' := [.ref 68, .int y]) (by decide +kernel) (fun _ => rfl)).trans ?_
  refine (R_pure0 (ins := .aload_n 0) (len := 1) (loc' := [.ref 0, .ref 2, .ref 68, .int x3]) (st' := [.ref 0, .ref 68, .int y]) (by decide +kernel) (fun _ => rfl)).trans ?_
  refine (R_pure0 (ins := .iload_n 3) (len := 1) (loc' := [.ref 0, .ref 2, .ref 68, .int x3]) (st' := [.int x3, .ref 0, .ref 68, .int y]) (by decide +kernel) (fun _ => rfl)).trans ?_
  refine (R_iconst (n := 1) (v := 1) (by decide +kernel) (by decide +kernel)).trans ?_
  refine (R_pure0 (ins := .iadd) (len := 1) (loc' := [.ref 0, .ref 2, .ref 68, .int x3]) (st' := [.int (x3 + 1), .ref 0, .ref 68, .int y]) (by decide +kernel) (fun _ => rfl)).trans ?_
  refine (R_iaload (kd := 105) (n := L) (by decide +kernel) rfl (by decide) (h1)).trans ?_
  refine (R_pure0 (ins := .aload_n 0) (len := 1) (loc' := [.ref 0, .ref 2, .ref 68, .int x3]) (st' := [.ref 0, .int (mi 0 (x3 + 1).toNatClampNeg), .ref 68, .int y]) (by decide +kernel) (fun _ => rfl)).trans ?_
  refine (R_pure0 (ins := .iload_n 3) (len := 1) (loc' := [.ref 0, .ref 2, .ref 68, .int x3]) (st' := [.int x3, .ref 0, .int (mi 0 (x3 + 1).toNatClampNeg), .ref 68, .int y]) (by decide +kernel) (fun _ => rfl)).trans ?_
  refine (R_iconst (n := 2) (v := 2) (by decide +kernel) (by decide +kernel)).trans ?_
  refine (R_pure0 (ins := .iadd) (len := 1) (loc' := [.ref 0, .ref 2, .ref 68, .int x3]) (st' := [.int (x3 + 2), .ref 0, .int (mi 0 (x3 + 1).toNatClampNeg), .ref 68, .int y]) (by decide +kernel) (fun _ => rfl)).trans ?_
  refine (R_iaload (kd := 105) (n := L) (by decide +kernel) rfl (by decide) (h2)).trans ?_
  refine (R_virt (i := 141) (f := 221) (kd := 0) (na := 2) (ml := 8) (ci := 10) (n := 33) (b := 68) (As := [.int (mi 0 (x3 + 1).toNatClampNeg), .int (mi 0 (x3 + 2).toNatClampNeg)]) (rest := [.int y]) (by decide +kernel) (by decide +kernel) (by decide) (by decide +kernel) rfl (by decide +kernel) rfl rfl (by decide +kernel) (Nat.le_of_ble_eq_true rfl)).trans ?_
  rfl
set_option maxRecDepth 4000 in
theorem s241_1134 {L : Nat} {mi : Nat → Nat → Int32} {ml : Nat → Nat → Int64} {d : Nat} {Q : Option Value → xM → Prop} {w x3 z0 : Int32} : X 241 1134 [.ref 0, .ref 2, .ref 68, .int x3] [.int w, .int z0] (SH L, mi, ml, MR) d Q =
    if (z0 = w) then (X 241 1365 [.ref 0, .ref 2, .ref 68, .int x3] [] (SH L, mi, ml, MR) d Q) else (Q (some (.int 0)) (SH L, mi, ml, MR)) := by
  refine (R_icmp_eq (off := 231) (t := 1365) (by decide +kernel) (by decide +kernel)).trans (ite_congr rfl (fun c0 => ?_) (fun c0 => ?_))
  · rfl
  · refine (R_iconst (n := 0) (v := 0) (by decide +kernel) (by decide +kernel)).trans ?_
    exact R_zreturn (by decide +kernel) (by decide +kernel) (by decide)
set_option maxRecDepth 4000 in
theorem s241_1139 {L : Nat} {mi : Nat → Nat → Int32} {ml : Nat → Nat → Int64} {d : Nat} {Q : Option Value → xM → Prop} {x3 : Int32} (h1 : xin (x3 + 1) L = true) : X 241 1139 [.ref 0, .ref 2, .ref 68, .int x3] [] (SH L, mi, ml, MR) (d + 1) Q =
    Xm 130 [.ref 2, .int (mi 0 (x3 + 1).toNatClampNeg)] (SH L, mi, ml, MR) d (fun v μ' => X 241 1148 [.ref 0, .ref 2, .ref 68, .int x3] (v.toList ++ []) μ' (d + 1) Q) := by
  refine (R_pure0 (ins := .aload_n 1) (len := 1) (loc' := [.ref 0, .ref 2, .ref 68, .int x3]) (st' := [.ref 2]) (by decide +kernel) (fun _ => rfl)).trans ?_
  refine (R_pure0 (ins := .aload_n 0) (len := 1) (loc' := [.ref 0, .ref 2, .ref 68, .int x3]) (st' := [.ref 0, .ref 2]) (by decide +kernel) (fun _ => rfl)).trans ?_
  refine (R_pure0 (ins := .iload_n 3) (len := 1) (loc' := [.ref 0, .ref 2, .ref 68, .int x3]) (st' := [.int x3, .ref 0, .ref 2]) (by decide +kernel) (fun _ => rfl)).trans ?_
  refine (R_iconst (n := 1) (v := 1) (by decide +kernel) (by decide +kernel)).trans ?_
  refine (R_pure0 (ins := .iadd) (len := 1) (loc' := [.ref 0, .ref 2, .ref 68, .int x3]) (st' := [.int (x3 + 1), .ref 0, .ref 2]) (by decide +kernel) (fun _ => rfl)).trans ?_
  refine (R_iaload (kd := 105) (n := L) (by decide +kernel) rfl (by decide) (h1)).trans ?_
  refine (R_virt (i := 142) (f := 130) (kd := 0) (na := 1) (ml := 2) (ci := 9) (n := 12) (b := 2) (As := [.int (mi 0 (x3 + 1).toNatClampNeg)]) (rest := []) (by decide +kernel) (by decide +kernel) (by decide) (by decide +kernel) rfl (by decide +kernel) rfl rfl (by decide +kernel) (Nat.le_of_ble_eq_true rfl)).trans ?_
  rfl
set_option maxRecDepth 4000 in
theorem s241_1148 {L : Nat} {mi : Nat → Nat → Int32} {ml : Nat → Nat → Int64} {d : Nat} {Q : Option Value → xM → Prop} {x3 y : Int32} (h1 : xin (x3 + 1) L = true) : X 241 1148 [.ref 0, .ref 2, .ref 68, .int x3] [.int y] (SH L, mi, ml, MR) (d + 1) Q =
    Xm 223 [.ref 68, .int (mi 0 (x3 + 1).toNatClampNeg)] (SH L, mi, ml, MR) d (fun v μ' => X 241 1157 [.ref 0, .ref 2, .ref 68, .int x3] (v.toList ++ [.int y]) μ' (d + 1) Q) := by
  refine (R_pure0 (ins := .aload_n 2) (len := 1) (loc' := [.ref 0, .ref 2, .ref 68, .int x3]) (st' := [.ref 68, .int y]) (by decide +kernel) (fun _ => rfl)).trans ?_
  refine (R_pure0 (ins := .aload_n 0) (len := 1) (loc' := [.ref 0, .ref 2, .ref 68, .int x3]) (st' := [.ref 0, .ref 68, .int y]) (by decide +kernel) (fun _ => rfl)).trans ?_
  refine (R_pure0 (ins := .iload_n 3) (len := 1) (loc' := [.ref 0, .ref 2, .ref 68, .int x3]) (st' := [.int x3, .ref 0, .ref 68, .int y]) (by decide +kernel) (fun _ => rfl)).trans ?_
  refine (R_iconst (n := 1) (v := 1) (by decide +kernel) (by decide +kernel)).trans ?_
  refine (R_pure0 (ins := .iadd) (len := 1) (loc' := [.ref 0, .ref 2, .ref 68, .int x3]) (st' := [.int (x3 + 1), .ref 0, .ref 68, .int y]) (by decide +kernel) (fun _ => rfl)).trans ?_
  refine (R_iaload (kd := 105) (n := L) (by decide +kernel) rfl (by decide) (h1)).trans ?_
  refine (R_virt (i := 145) (f := 223) (kd := 0) (na := 1) (ml := 5) (ci := 10) (n := 33) (b := 68) (As := [.int (mi 0 (x3 + 1).toNatClampNeg)]) (rest := [.int y]) (by decide +kernel) (by decide +kernel) (by decide) (by decide +kernel) rfl (by decide +kernel) rfl rfl (by decide +kernel) (Nat.le_of_ble_eq_true rfl)).trans ?_
  rfl
set_option maxRecDepth 4000 in
theorem s241_1157 {L : Nat} {mi : Nat → Nat → Int32} {ml : Nat → Nat → Int64} {d : Nat} {Q : Option Value → xM → Prop} {w x3 z0 : Int32} : X 241 1157 [.ref 0, .ref 2, .ref 68, .int x3] [.int w, .int z0] (SH L, mi, ml, MR) d Q =
    if (z0 = w) then (X 241 1365 [.ref 0, .ref 2, .ref 68, .int x3] [] (SH L, mi, ml, MR) d Q) else (Q (some (.int 0)) (SH L, mi, ml, MR)) := by
  refine (R_icmp_eq (off := 208) (t := 1365) (by decide +kernel) (by decide +kernel)).trans (ite_congr rfl (fun c0 => ?_) (fun c0 => ?_))
  · rfl
  · refine (R_iconst (n := 0) (v := 0) (by decide +kernel) (by decide +kernel)).trans ?_
    exact R_zreturn (by decide +kernel) (by decide +kernel) (by decide)
set_option maxRecDepth 4000 in
theorem s241_1162 {L : Nat} {mi : Nat → Nat → Int32} {ml : Nat → Nat → Int64} {d : Nat} {Q : Option Value → xM → Prop} {x3 : Int32} (h1 : xin (x3 + 1) L = true) (h2 : xin (x3 + 2) L = true) : X 241 1162 [.ref 0, .ref 2, .ref 68, .int x3] [] (SH L, mi, ml, MR) (d + 1) Q =
    Xm 131 [.ref 2, .int (mi 0 (x3 + 1).toNatClampNeg), .int (mi 0 (x3 + 2).toNatClampNeg)] (SH L, mi, ml, MR) d (fun v μ' => X 241 1176 [.ref 0, .ref 2, .ref 68, .int x3] (v.toList ++ []) μ' (d + 1) Q) := by
  refine (R_pure0 (ins := .aload_n 1) (len := 1) (loc' := [.ref 0, .ref 2, .ref 68, .int x3]) (st' := [.ref 2]) (by decide +kernel) (fun _ => rfl)).trans ?_
  refine (R_pure0 (ins := .aload_n 0) (len := 1) (loc' := [.ref 0, .ref 2, .ref 68, .int x3]) (st' := [.ref 0, .ref 2]) (by decide +kernel) (fun _ => rfl)).trans ?_
  refine (R_pure0 (ins := .iload_n 3) (len := 1) (loc' := [.ref 0, .ref 2, .ref 68, .int x3]) (st' := [.int x3, .ref 0, .ref 2]) (by decide +kernel) (fun _ => rfl)).trans ?_
  refine (R_iconst (n := 1) (v := 1) (by decide +kernel) (by decide +kernel)).trans ?_
  refine (R_pure0 (ins := .iadd) (len := 1) (loc' := [.ref 0, .ref 2, .ref 68, .int x3]) (st' := [.int (x3 + 1), .ref 0, .ref 2]) (by decide +kernel) (fun _ => rfl)).trans ?_
  refine (R_iaload (kd := 105) (n := L) (by decide +kernel) rfl (by decide) (h1)).trans ?_
  refine (R_pure0 (ins := .aload_n 0) (len := 1) (loc' := [.ref 0, .ref 2, .ref 68, .int x3]) (st' := [.ref 0, .int (mi 0 (x3 + 1).toNatClampNeg), .ref 2]) (by decide +kernel) (fun _ => rfl)).trans ?_
  refine (R_pure0 (ins := .iload_n 3) (len := 1) (loc' := [.ref 0, .ref 2, .ref 68, .int x3]) (st' := [.int x3, .ref 0, .int (mi 0 (x3 + 1).toNatClampNeg), .ref 2]) (by decide +kernel) (fun _ => rfl)).trans ?_
  refine (R_iconst (n := 2) (v := 2) (by decide +kernel) (by decide +kernel)).trans ?_
  refine (R_pure0 (ins := .iadd) (len := 1) (loc' := [.ref 0, .ref 2, .ref 68, .int x3]) (st' := [.int (x3 + 2), .ref 0, .int (mi 0 (x3 + 1).toNatClampNeg), .ref 2]) (by decide +kernel) (fun _ => rfl)).trans ?_
  refine (R_iaload (kd := 105) (n := L) (by decide +kernel) rfl (by decide) (h2)).trans ?_
  refine (R_virt (i := 146) (f := 131) (kd := 0) (na := 2) (ml := 3) (ci := 9) (n := 12) (b := 2) (As := [.int (mi 0 (x3 + 1).toNatClampNeg), .int (mi 0 (x3 + 2).toNatClampNeg)]) (rest := []) (by decide +kernel) (by decide +kernel) (by decide) (by decide +kernel) rfl (by decide +kernel) rfl rfl (by decide +kernel) (Nat.le_of_ble_eq_true rfl)).trans ?_
  rfl
set_option maxRecDepth 4000 in
theorem s241_1176 {L : Nat} {mi : Nat → Nat → Int32} {ml : Nat → Nat → Int64} {d : Nat} {Q : Option Value → xM → Prop} {x3 y : Int32} (h1 : xin (x3 + 1) L = true) (h2 : xin (x3 + 2) L = true) : X 241 1176 [.ref 0, .ref 2, .ref 68, .int x3] [.int y] (SH L, mi, ml, MR) (d + 1) Q =
    Xm 226 [.ref 68, .int (mi 0 (x3 + 1).toNatClampNeg), .int (mi 0 (x3 + 2).toNatClampNeg)] (SH L, mi, ml, MR) d (fun v μ' => X 241 1190 [.ref 0, .ref 2, .ref 68, .int x3] (v.toList ++ [.int y]) μ' (d + 1) Q) := by
  refine (R_pure0 (ins := .aload_n 2) (len := 1) (loc' := [.ref 0, .ref 2, .ref 68, .int x3]) (st' := [.ref 68, .int y]) (by decide +kernel) (fun _ => rfl)).trans ?_
  refine (R_pure0 (ins := .aload_n 0) (len := 1) (loc' := [.ref 0, .ref 2, .ref 68, .int x3]) (st' := [.ref 0, .ref 68, .int y]) (by decide +kernel) (fun _ => rfl)).trans ?_
  refine (R_pure0 (ins := .iload_n 3) (len := 1) (loc' := [.ref 0, .ref 2, .ref 68, .int x3]) (st' := [.int x3, .ref 0, .ref 68, .int y]) (by decide +kernel) (fun _ => rfl)).trans ?_
  refine (R_iconst (n := 1) (v := 1) (by decide +kernel) (by decide +kernel)).trans ?_
  refine (R_pure0 (ins := .iadd) (len := 1) (loc' := [.ref 0, .ref 2, .ref 68, .int x3]) (st' := [.int (x3 + 1), .ref 0, .ref 68, .int y]) (by decide +kernel) (fun _ => rfl)).trans ?_
  refine (R_iaload (kd := 105) (n := L) (by decide +kernel) rfl (by decide) (h1)).trans ?_
  refine (R_pure0 (ins := .aload_n 0) (len := 1) (loc' := [.ref 0, .ref 2, .ref 68, .int x3]) (st' := [.ref 0, .int (mi 0 (x3 + 1).toNatClampNeg), .ref 68, .int y]) (by decide +kernel) (fun _ => rfl)).trans ?_
  refine (R_pure0 (ins := .iload_n 3) (len := 1) (loc' := [.ref 0, .ref 2, .ref 68, .int x3]) (st' := [.int x3, .ref 0, .int (mi 0 (x3 + 1).toNatClampNeg), .ref 68, .int y]) (by decide +kernel) (fun _ => rfl)).trans ?_
  refine (R_iconst (n := 2) (v := 2) (by decide +kernel) (by decide +kernel)).trans ?_
  refine (R_pure0 (ins := .iadd) (len := 1) (loc' := [.ref 0, .ref 2, .ref 68, .int x3]) (st' := [.int (x3 + 2), .ref 0, .int (mi 0 (x3 + 1).toNatClampNeg), .ref 68, .int y]) (by decide +kernel) (fun _ => rfl)).trans ?_
  refine (R_iaload (kd := 105) (n := L) (by decide +kernel) rfl (by decide) (h2)).trans ?_
  refine (R_virt (i := 149) (f := 226) (kd := 0) (na := 2) (ml := 3) (ci := 10) (n := 33) (b := 68) (As := [.int (mi 0 (x3 + 1).toNatClampNeg), .int (mi 0 (x3 + 2).toNatClampNeg)]) (rest := [.int y]) (by decide +kernel) (by decide +kernel) (by decide) (by decide +kernel) rfl (by decide +kernel) rfl rfl (by decide +kernel) (Nat.le_of_ble_eq_true rfl)).trans ?_
  rfl
set_option maxRecDepth 4000 in
theorem s241_1190 {L : Nat} {mi : Nat → Nat → Int32} {ml : Nat → Nat → Int64} {d : Nat} {Q : Option Value → xM → Prop} {w x3 z0 : Int32} : X 241 1190 [.ref 0, .ref 2, .ref 68, .int x3] [.int w, .int z0] (SH L, mi, ml, MR) d Q =
    if (z0 = w) then (X 241 1365 [.ref 0, .ref 2, .ref 68, .int x3] [] (SH L, mi, ml, MR) d Q) else (Q (some (.int 0)) (SH L, mi, ml, MR)) := by
  refine (R_icmp_eq (off := 175) (t := 1365) (by decide +kernel) (by decide +kernel)).trans (ite_congr rfl (fun c0 => ?_) (fun c0 => ?_))
  · rfl
  · refine (R_iconst (n := 0) (v := 0) (by decide +kernel) (by decide +kernel)).trans ?_
    exact R_zreturn (by decide +kernel) (by decide +kernel) (by decide)
set_option maxRecDepth 4000 in
theorem s241_1195 {L : Nat} {mi : Nat → Nat → Int32} {ml : Nat → Nat → Int64} {d : Nat} {Q : Option Value → xM → Prop} {x3 : Int32} (h1 : xin (x3 + 1) L = true) : X 241 1195 [.ref 0, .ref 2, .ref 68, .int x3] [] (SH L, mi, ml, MR) (d + 1) Q =
    Xm 132 [.ref 2, .int (mi 0 (x3 + 1).toNatClampNeg)] (SH L, mi, ml, MR) d (fun v μ' => X 241 1204 [.ref 0, .ref 2, .ref 68, .int x3] (v.toList ++ []) μ' (d + 1) Q) := by
  refine (R_pure0 (ins := .aload_n 1) (len := 1) (loc' := [.ref 0, .ref 2, .ref 68, .int x3]) (st' := [.ref 2]) (by decide +kernel) (fun _ => rfl)).trans ?_
  refine (R_pure0 (ins := .aload_n 0) (len := 1) (loc' := [.ref 0, .ref 2, .ref 68, .int x3]) (st' := [.ref 0, .ref 2]) (by decide +kernel) (fun _ => rfl)).trans ?_
  refine (R_pure0 (ins := .iload_n 3) (len := 1) (loc' := [.ref 0, .ref 2, .ref 68, .int x3]) (st' := [.int x3, .ref 0, .ref 2]) (by decide +kernel) (fun _ => rfl)).trans ?_
  refine (R_iconst (n := 1) (v := 1) (by decide +kernel) (by decide +kernel)).trans ?_
  refine (R_pure0 (ins := .iadd) (len := 1) (loc' := [.ref 0, .ref 2, .ref 68, .int x3]) (st' := [.int (x3 + 1), .ref 0, .ref 2]) (by decide +kernel) (fun _ => rfl)).trans ?_
  refine (R_iaload (kd := 105) (n := L) (by decide +kernel) rfl (by decide) (h1)).trans ?_
  refine (R_virt (i := 150) (f := 132) (kd := 0) (na := 1) (ml := 2) (ci := 9) (n := 12) (b := 2) (As := [.int (mi 0 (x3 + 1).toNatClampNeg)]) (rest := []) (by decide +kernel) (by decide +kernel) (by decide) (by decide +kernel) rfl (by decide +kernel) rfl rfl (by decide +kernel) (Nat.le_of_ble_eq_true rfl)).trans ?_
  rfl
set_option maxRecDepth 4000 in
theorem s241_1204 {L : Nat} {mi : Nat → Nat → Int32} {ml : Nat → Nat → Int64} {d : Nat} {Q : Option Value → xM → Prop} {x3 y : Int32} (h1 : xin (x3 + 1) L = true) : X 241 1204 [.ref 0, .ref 2, .ref 68, .int x3] [.int y] (SH L, mi, ml, MR) (d + 1) Q =
    Xm 227 [.ref 68, .int (mi 0 (x3 + 1).toNatClampNeg)] (SH L, mi, ml, MR) d (fun v μ' => X 241 1213 [.ref 0, .ref 2, .ref 68, .int x3] (v.toList ++ [.int y]) μ' (d + 1) Q) := by
  refine (R_pure0 (ins := .aload_n 2) (len := 1) (loc' := [.ref 0, .ref 2, .ref 68, .int x3]) (st' := [.ref 68, .int y]) (by decide +kernel) (fun _ => rfl)).trans ?_
  refine (R_pure0 (ins := .aload_n 0) (len := 1) (loc' := [.ref 0, .ref 2, .ref 68, .int x3]) (st' := [.ref 0, .ref 68, .int y]) (by decide +kernel) (fun _ => rfl)).trans ?_
  refine (R_pure0 (ins := .iload_n 3) (len := 1) (loc' := [.ref 0, .ref 2, .ref 68, .int x3]) (st' := [.int x3, .ref 0, .ref 68, .int y]) (by decide +kernel) (fun _ => rfl)).trans ?_
  refine (R_iconst (n := 1) (v := 1) (by decide +kernel) (by decide +kernel)).trans ?_
  refine (R_pure0 (ins := .iadd) (len := 1) (loc' := [.ref 0, .ref 2, .ref 68, .int x3]) (st' := [.int (x3 + 1), .ref 0, .ref 68, .int y]) (by decide +kernel) (fun _ => rfl)).trans ?_
  refine (R_iaload (kd := 105) (n := L) (by decide +kernel) rfl (by decide) (h1)).trans ?_
  refine (R_virt (i := 153) (f := 227) (kd := 0) (na := 1) (ml := 2) (ci := 10) (n := 33) (b := 68) (As := [.int (mi 0 (x3 + 1).toNatClampNeg)]) (rest := [.int y]) (by decide +kernel) (by decide +kernel) (by decide) (by decide +kernel) rfl (by decide +kernel) rfl rfl (by decide +kernel) (Nat.le_of_ble_eq_true rfl)).trans ?_
  rfl
set_option maxRecDepth 4000 in
theorem s241_1213 {L : Nat} {mi : Nat → Nat → Int32} {ml : Nat → Nat → Int64} {d : Nat} {Q : Option Value → xM → Prop} {w x3 z0 : Int32} : X 241 1213 [.ref 0, .ref 2, .ref 68, .int x3] [.int w, .int z0] (SH L, mi, ml, MR) d Q =
    if (z0 = w) then (X 241 1365 [.ref 0, .ref 2, .ref 68, .int x3] [] (SH L, mi, ml, MR) d Q) else (Q (some (.int 0)) (SH L, mi, ml, MR)) := by
  refine (R_icmp_eq (off := 152) (t := 1365) (by decide +kernel) (by decide +kernel)).trans (ite_congr rfl (fun c0 => ?_) (fun c0 => ?_))
  · rfl
  · refine (R_iconst (n := 0) (v := 0) (by decide +kernel) (by decide +kernel)).trans ?_
    exact R_zreturn (by decide +kernel) (by decide +kernel) (by decide)
set_option maxRecDepth 4000 in
theorem s241_1218 {L : Nat} {mi : Nat → Nat → Int32} {ml : Nat → Nat → Int64} {d : Nat} {Q : Option Value → xM → Prop} {x3 : Int32} (h1 : xin (x3 + 1) L = true) (h2 : xin (x3 + 2) L = true) : X 241 1218 [.ref 0, .ref 2, .ref 68, .int x3] [] (SH L, mi, ml, MR) (d + 1) Q =
    Xm 133 [.ref 2, .int (mi 0 (x3 + 1).toNatClampNeg), .int (mi 0 (x3 + 2).toNatClampNeg)] (SH L, mi, ml, MR) d (fun v μ' => X 241 1232 [.ref 0, .ref 2, .ref 68, .int x3] (v.toList ++ []) μ' (d + 1) Q) := by
  refine (R_pure0 (ins := .aload_n 1) (len := 1) (loc' := [.ref 0, .ref 2, .ref 68, .int x3]) (st' := [.ref 2]) (by decide +kernel) (fun _ => rfl)).trans ?_
  refine (R_pure0 (ins := .aload_n 0) (len := 1) (loc' := [.ref 0, .ref 2, .ref 68, .int x3]) (st' := [.ref 0, .ref 2]) (by decide +kernel) (fun _ => rfl)).trans ?_
  refine (R_pure0 (ins := .iload_n 3) (len := 1) (loc' := [.ref 0, .ref 2, .ref 68, .int x3]) (st' := [.int x3, .ref 0, .ref 2]) (by decide +kernel) (fun _ => rfl)).trans ?_
  refine (R_iconst (n := 1) (v := 1) (by decide +kernel) (by decide +kernel)).trans ?_
  refine (R_pure0 (ins := .iadd) (len := 1) (loc' := [.ref 0, .ref 2, .ref 68, .int x3]) (st' := [.int (x3 + 1), .ref 0, .ref 2]) (by decide +kernel) (fun _ => rfl)).trans ?_
  refine (R_iaload (kd := 105) (n := L) (by decide +kernel) rfl (by decide) (h1)).trans ?_
  refine (R_pure0 (ins := .aload_n 0) (len := 1) (loc' := [.ref 0, .ref 2, .ref 68, .int x3]) (st' := [.ref 0, .int (mi 0 (x3 + 1).toNatClampNeg), .ref 2]) (by decide +kernel) (fun _ => rfl)).trans ?_
  refine (R_pure0 (ins := .iload_n 3) (len := 1) (loc' := [.ref 0, .ref 2, .ref 68, .int x3]) (st' := [.int x3, .ref 0, .int (mi 0 (x3 + 1).toNatClampNeg), .ref 2]) (by decide +kernel) (fun _ => rfl)).trans ?_
  refine (R_iconst (n := 2) (v := 2) (by decide +kernel) (by decide +kernel)).trans ?_
  refine (R_pure0 (ins := .iadd) (len := 1) (loc' := [.ref 0, .ref 2, .ref 68, .int x3]) (st' := [.int (x3 + 2), .ref 0, .int (mi 0 (x3 + 1).toNatClampNeg), .ref 2]) (by decide +kernel) (fun _ => rfl)).trans ?_
  refine (R_iaload (kd := 105) (n := L) (by decide +kernel) rfl (by decide) (h2)).trans ?_
  refine (R_virt (i := 154) (f := 133) (kd := 0) (na := 2) (ml := 3) (ci := 9) (n := 12) (b := 2) (As := [.int (mi 0 (x3 + 1).toNatClampNeg), .int (mi 0 (x3 + 2).toNatClampNeg)]) (rest := []) (by decide +kernel) (by decide +kernel) (by decide) (by decide +kernel) rfl (by decide +kernel) rfl rfl (by decide +kernel) (Nat.le_of_ble_eq_true rfl)).trans ?_
  rfl
set_option maxRecDepth 4000 in
theorem s241_1232 {L : Nat} {mi : Nat → Nat → Int32} {ml : Nat → Nat → Int64} {d : Nat} {Q : Option Value → xM → Prop} {x3 y : Int32} (h1 : xin (x3 + 1) L = true) (h2 : xin (x3 + 2) L = true) : X 241 1232 [.ref 0, .ref 2, .ref 68, .int x3] [.int y] (SH L, mi, ml, MR) (d + 1) Q =
    Xm 228 [.ref 68, .int (mi 0 (x3 + 1).toNatClampNeg), .int (mi 0 (x3 + 2).toNatClampNeg)] (SH L, mi, ml, MR) d (fun v μ' => X 241 1246 [.ref 0, .ref 2, .ref 68, .int x3] (v.toList ++ [.int y]) μ' (d + 1) Q) := by
  refine (R_pure0 (ins := .aload_n 2) (len := 1) (loc' := [.ref 0, .ref 2, .ref 68, .int x3]) (st' := [.ref 68, .int y]) (by decide +kernel) (fun _ => rfl)).trans ?_
  refine (R_pure0 (ins := .aload_n 0) (len := 1) (loc' := [.ref 0, .ref 2, .ref 68, .int x3]) (st' := [.ref 0, .ref 68, .int y]) (by decide +kernel) (fun _ => rfl)).trans ?_
  refine (R_pure0 (ins := .iload_n 3) (len := 1) (loc' := [.ref 0, .ref 2, .ref 68, .int x3]) (st' := [.int x3, .ref 0, .ref 68, .int y]) (by decide +kernel) (fun _ => rfl)).trans ?_
  refine (R_iconst (n := 1) (v := 1) (by decide +kernel) (by decide +kernel)).trans ?_
  refine (R_pure0 (ins := .iadd) (len := 1) (loc' := [.ref 0, .ref 2, .ref 68, .int x3]) (st' := [.int (x3 + 1), .ref 0, .ref 68, .int y]) (by decide +kernel) (fun _ => rfl)).trans ?_
  refine (R_iaload (kd := 105) (n := L) (by decide +kernel) rfl (by decide) (h1)).trans ?_
  refine (R_pure0 (ins := .aload_n 0) (len := 1) (loc' := [.ref 0, .ref 2, .ref 68, .int x3]) (st' := [.ref 0, .int (mi 0 (x3 + 1).toNatClampNeg), .ref 68, .int y]) (by decide +kernel) (fun _ => rfl)).trans ?_
  refine (R_pure0 (ins := .iload_n 3) (len := 1) (loc' := [.ref 0, .ref 2, .ref 68, .int x3]) (st' := [.int x3, .ref 0, .int (mi 0 (x3 + 1).toNatClampNeg), .ref 68, .int y]) (by decide +kernel) (fun _ => rfl)).trans ?_
  refine (R_iconst (n := 2) (v := 2) (by decide +kernel) (by decide +kernel)).trans ?_
  refine (R_pure0 (ins := .iadd) (len := 1) (loc' := [.ref 0, .ref 2, .ref 68, .int x3]) (st' := [.int (x3 + 2), .ref 0, .int (mi 0 (x3 + 1).toNatClampNeg), .ref 68, .int y]) (by decide +kernel) (fun _ => rfl)).trans ?_
  refine (R_iaload (kd := 105) (n := L) (by decide +kernel) rfl (by decide) (h2)).trans ?_
  refine (R_virt (i := 157) (f := 228) (kd := 0) (na := 2) (ml := 9) (ci := 10) (n := 33) (b := 68) (As := [.int (mi 0 (x3 + 1).toNatClampNeg), .int (mi 0 (x3 + 2).toNatClampNeg)]) (rest := [.int y]) (by decide +kernel) (by decide +kernel) (by decide) (by decide +kernel) rfl (by decide +kernel) rfl rfl (by decide +kernel) (Nat.le_of_ble_eq_true rfl)).trans ?_
  rfl
set_option maxRecDepth 4000 in
theorem s241_1246 {L : Nat} {mi : Nat → Nat → Int32} {ml : Nat → Nat → Int64} {d : Nat} {Q : Option Value → xM → Prop} {w x3 z0 : Int32} : X 241 1246 [.ref 0, .ref 2, .ref 68, .int x3] [.int w, .int z0] (SH L, mi, ml, MR) d Q =
    if (z0 = w) then (X 241 1365 [.ref 0, .ref 2, .ref 68, .int x3] [] (SH L, mi, ml, MR) d Q) else (Q (some (.int 0)) (SH L, mi, ml, MR)) := by
  refine (R_icmp_eq (off := 119) (t := 1365) (by decide +kernel) (by decide +kernel)).trans (ite_congr rfl (fun c0 => ?_) (fun c0 => ?_))
  · rfl
  · refine (R_iconst (n := 0) (v := 0) (by decide +kernel) (by decide +kernel)).trans ?_
    exact R_zreturn (by decide +kernel) (by decide +kernel) (by decide)
set_option maxRecDepth 4000 in
theorem s241_1251 {L : Nat} {mi : Nat → Nat → Int32} {ml : Nat → Nat → Int64} {d : Nat} {Q : Option Value → xM → Prop} {x3 : Int32} : X 241 1251 [.ref 0, .ref 2, .ref 68, .int x3] [] (SH L, mi, ml, MR) (d + 1) Q =
    Xm 134 [.ref 2] (SH L, mi, ml, MR) d (fun v μ' => X 241 1255 [.ref 0, .ref 2, .ref 68, .int x3] (v.toList ++ []) μ' (d + 1) Q) := by
  refine (R_pure0 (ins := .aload_n 1) (len := 1) (loc' := [.ref 0, .ref 2, .ref 68, .int x3]) (st' := [.ref 2]) (by decide +kernel) (fun _ => rfl)).trans ?_
  refine (R_virt (i := 158) (f := 134) (kd := 0) (na := 0) (ml := 1) (ci := 9) (n := 12) (b := 2) (As := []) (rest := []) (by decide +kernel) (by decide +kernel) (by decide) (by decide +kernel) rfl (by decide +kernel) rfl rfl (by decide +kernel) (Nat.le_of_ble_eq_true rfl)).trans ?_
  rfl
set_option maxRecDepth 4000 in
theorem s241_1255 {L : Nat} {mi : Nat → Nat → Int32} {ml : Nat → Nat → Int64} {d : Nat} {Q : Option Value → xM → Prop} {x3 y : Int32} : X 241 1255 [.ref 0, .ref 2, .ref 68, .int x3] [.int y] (SH L, mi, ml, MR) (d + 1) Q =
    Xm 229 [.ref 68] (SH L, mi, ml, MR) d (fun v μ' => X 241 1259 [.ref 0, .ref 2, .ref 68, .int x3] (v.toList ++ [.int y]) μ' (d + 1) Q) := by
  refine (R_pure0 (ins := .aload_n 2) (len := 1) (loc' := [.ref 0, .ref 2, .ref 68, .int x3]) (st' := [.ref 68, .int y]) (by decide +kernel) (fun _ => rfl)).trans ?_
  refine (R_virt (i := 161) (f := 229) (kd := 0) (na := 0) (ml := 1) (ci := 10) (n := 33) (b := 68) (As := []) (rest := [.int y]) (by decide +kernel) (by decide +kernel) (by decide) (by decide +kernel) rfl (by decide +kernel) rfl rfl (by decide +kernel) (Nat.le_of_ble_eq_true rfl)).trans ?_
  rfl
set_option maxRecDepth 4000 in
theorem s241_1259 {L : Nat} {mi : Nat → Nat → Int32} {ml : Nat → Nat → Int64} {d : Nat} {Q : Option Value → xM → Prop} {w x3 z0 : Int32} : X 241 1259 [.ref 0, .ref 2, .ref 68, .int x3] [.int w, .int z0] (SH L, mi, ml, MR) d Q =
    if (z0 = w) then (X 241 1365 [.ref 0, .ref 2, .ref 68, .int x3] [] (SH L, mi, ml, MR) d Q) else (Q (some (.int 0)) (SH L, mi, ml, MR)) := by
  refine (R_icmp_eq (off := 106) (t := 1365) (by decide +kernel) (by decide +kernel)).trans (ite_congr rfl (fun c0 => ?_) (fun c0 => ?_))
  · rfl
  · refine (R_iconst (n := 0) (v := 0) (by decide +kernel) (by decide +kernel)).trans ?_
    exact R_zreturn (by decide +kernel) (by decide +kernel) (by decide)
set_option maxRecDepth 4000 in
theorem s241_1264 {L : Nat} {mi : Nat → Nat → Int32} {ml : Nat → Nat → Int64} {d : Nat} {Q : Option Value → xM → Prop} {x3 : Int32} : X 241 1264 [.ref 0, .ref 2, .ref 68, .int x3] [] (SH L, mi, ml, MR) (d + 1) Q =
    Xm 135 [.ref 2] (SH L, mi, ml, MR) d (fun v μ' => X 241 1268 [.ref 0, .ref 2, .ref 68, .int x3] (v.toList ++ []) μ' (d + 1) Q) := by
  refine (R_pure0 (ins := .aload_n 1) (len := 1) (loc' := [.ref 0, .ref 2, .ref 68, .int x3]) (st' := [.ref 2]) (by decide +kernel) (fun _ => rfl)).trans ?_
  refine (R_virt (i := 162) (f := 135) (kd := 0) (na := 0) (ml := 1) (ci := 9) (n := 12) (b := 2) (As := []) (rest := []) (by decide +kernel) (by decide +kernel) (by decide) (by decide +kernel) rfl (by decide +kernel) rfl rfl (by decide +kernel) (Nat.le_of_ble_eq_true rfl)).trans ?_
  rfl
set_option maxRecDepth 4000 in
theorem s241_1268 {L : Nat} {mi : Nat → Nat → Int32} {ml : Nat → Nat → Int64} {d : Nat} {Q : Option Value → xM → Prop} {x3 : Int32} {y : Int64} : X 241 1268 [.ref 0, .ref 2, .ref 68, .int x3] [.long y] (SH L, mi, ml, MR) (d + 1) Q =
    Xm 230 [.ref 68] (SH L, mi, ml, MR) d (fun v μ' => X 241 1272 [.ref 0, .ref 2, .ref 68, .int x3] (v.toList ++ [.long y]) μ' (d + 1) Q) := by
  refine (R_pure0 (ins := .aload_n 2) (len := 1) (loc' := [.ref 0, .ref 2, .ref 68, .int x3]) (st' := [.ref 68, .long y]) (by decide +kernel) (fun _ => rfl)).trans ?_
  refine (R_virt (i := 166) (f := 230) (kd := 0) (na := 0) (ml := 1) (ci := 10) (n := 33) (b := 68) (As := []) (rest := [.long y]) (by decide +kernel) (by decide +kernel) (by decide) (by decide +kernel) rfl (by decide +kernel) rfl rfl (by decide +kernel) (Nat.le_of_ble_eq_true rfl)).trans ?_
  rfl
set_option maxRecDepth 4000 in
theorem s241_1272 {L : Nat} {mi : Nat → Nat → Int32} {ml : Nat → Nat → Int64} {d : Nat} {Q : Option Value → xM → Prop} {x3 : Int32} {w z0 : Int64} : X 241 1272 [.ref 0, .ref 2, .ref 68, .int x3] [.long w, .long z0] (SH L, mi, ml, MR) d Q =
    if ((lg_cmp z0 w) = 0) then (X 241 1365 [.ref 0, .ref 2, .ref 68, .int x3] [] (SH L, mi, ml, MR) d Q) else (Q (some (.int 0)) (SH L, mi, ml, MR)) := by
  refine (R_pure0 (ins := .lcmp) (len := 1) (loc' := [.ref 0, .ref 2, .ref 68, .int x3]) (st' := [.int (lg_cmp z0 w)]) (by decide +kernel) (fun _ => rfl)).trans ?_
  refine (R_if_eq (off := 92) (t := 1365) (by decide +kernel) (by decide +kernel)).trans (ite_congr rfl (fun c0 => ?_) (fun c0 => ?_))
  · rfl
  · refine (R_iconst (n := 0) (v := 0) (by decide +kernel) (by decide +kernel)).trans ?_
    exact R_zreturn (by decide +kernel) (by decide +kernel) (by decide)
set_option maxRecDepth 4000 in
theorem s241_1278 {L : Nat} {mi : Nat → Nat → Int32} {ml : Nat → Nat → Int64} {d : Nat} {Q : Option Value → xM → Prop} {x3 : Int32} : X 241 1278 [.ref 0, .ref 2, .ref 68, .int x3] [] (SH L, mi, ml, MR) (d + 1) Q =
    Xm 136 [.ref 2] (SH L, mi, ml, MR) d (fun v μ' => X 241 1282 [.ref 0, .ref 2, .ref 68, .int x3] (v.toList ++ []) μ' (d + 1) Q) := by
  refine (R_pure0 (ins := .aload_n 1) (len := 1) (loc' := [.ref 0, .ref 2, .ref 68, .int x3]) (st' := [.ref 2]) (by decide +kernel) (fun _ => rfl)).trans ?_
  refine (R_virt (i := 167) (f := 136) (kd := 0) (na := 0) (ml := 1) (ci := 9) (n := 12) (b := 2) (As := []) (rest := []) (by decide +kernel) (by decide +kernel) (by decide) (by decide +kernel) rfl (by decide +kernel) rfl rfl (by decide +kernel) (Nat.le_of_ble_eq_true rfl)).trans ?_
  rfl
set_option maxRecDepth 4000 in
theorem s241_1282 {L : Nat} {mi : Nat → Nat → Int32} {ml : Nat → Nat → Int64} {d : Nat} {Q : Option Value → xM → Prop} {x3 : Int32} {y : Int64} : X 241 1282 [.ref 0, .ref 2, .ref 68, .int x3] [.long y] (SH L, mi, ml, MR) (d + 1) Q =
    Xm 231 [.ref 68] (SH L, mi, ml, MR) d (fun v μ' => X 241 1286 [.ref 0, .ref 2, .ref 68, .int x3] (v.toList ++ [.long y]) μ' (d + 1) Q) := by
  refine (R_pure0 (ins := .aload_n 2) (len := 1) (loc' := [.ref 0, .ref 2, .ref 68, .int x3]) (st' := [.ref 68, .long y]) (by decide +kernel) (fun _ => rfl)).trans ?_
  refine (R_virt (i := 170) (f := 231) (kd := 0) (na := 0) (ml := 1) (ci := 10) (n := 33) (b := 68) (As := []) (rest := [.long y]) (by decide +kernel) (by decide +kernel) (by decide) (by decide +kernel) rfl (by decide +kernel) rfl rfl (by decide +kernel) (Nat.le_of_ble_eq_true rfl)).trans ?_
  rfl
set_option maxRecDepth 4000 in
theorem s241_1286 {L : Nat} {mi : Nat → Nat → Int32} {ml : Nat → Nat → Int64} {d : Nat} {Q : Option Value → xM → Prop} {x3 : Int32} {w z0 : Int64} : X 241 1286 [.ref 0, .ref 2, .ref 68, .int x3] [.long w, .long z0] (SH L, mi, ml, MR) d Q =
    if ((lg_cmp z0 w) = 0) then (X 241 1365 [.ref 0, .ref 2, .ref 68, .int x3] [] (SH L, mi, ml, MR) d Q) else (Q (some (.int 0)) (SH L, mi, ml, MR)) := by
  refine (R_pure0 (ins := .lcmp) (len := 1) (loc' := [.ref 0, .ref 2, .ref 68, .int x3]) (st' := [.int (lg_cmp z0 w)]) (by decide +kernel) (fun _ => rfl)).trans ?_
  refine (R_if_eq (off := 78) (t := 1365) (by decide +kernel) (by decide +kernel)).trans (ite_congr rfl (fun c0 => ?_) (fun c0 => ?_))
  · rfl
  · refine (R_iconst (n := 0) (v := 0) (by decide +kernel) (by decide +kernel)).trans ?_
    exact R_zreturn (by decide +kernel) (by decide +kernel) (by decide)
set_option maxRecDepth 4000 in
theorem s241_1292 {L : Nat} {mi : Nat → Nat → Int32} {ml : Nat → Nat → Int64} {d : Nat} {Q : Option Value → xM → Prop} {x3 : Int32} (h1 : xin (x3 + 1) L = true) : X 241 1292 [.ref 0, .ref 2, .ref 68, .int x3] [] (SH L, mi, ml, MR) (d + 1) Q =
    Xm 137 [.ref 2, .int (mi 0 (x3 + 1).toNatClampNeg)] (SH L, mi, ml, MR) d (fun v μ' => X 241 1301 [.ref 0, .ref 2, .ref 68, .int x3] (v.toList ++ []) μ' (d + 1) Q) := by
  refine (R_pure0 (ins := .aload_n 1) (len := 1) (loc' := [.ref 0, .ref 2, .ref 68, .int x3]) (st' := [.ref 2]) (by decide +kernel) (fun _ => rfl)).trans ?_
  refine (R_pure0 (ins := .aload_n 0) (len := 1) (loc' := [.ref 0, .ref 2, .ref 68, .int x3]) (st' := [.ref 0, .ref 2]) (by decide +kernel) (fun _ => rfl)).trans ?_
  refine (R_pure0 (ins := .iload_n 3) (len := 1) (loc' := [.ref 0, .ref 2, .ref 68, .int x3]) (st' := [.int x3, .ref 0, .ref 2]) (by decide +kernel) (fun _ => rfl)).trans ?_
  refine (R_iconst (n := 1) (v := 1) (by decide +kernel) (by decide +kernel)).trans ?_
  refine (R_pure0 (ins := .iadd) (len := 1) (loc' := [.ref 0, .ref 2, .ref 68, .int x3]) (st' := [.int (x3 + 1), .ref 0, .ref 2]) (by decide +kernel) (fun _ => rfl)).trans ?_
  refine (R_iaload (kd := 105) (n := L) (by decide +kernel) rfl (by decide) (h1)).trans ?_
  refine (R_virt (i := 171) (f := 137) (kd := 0) (na := 1) (ml := 2) (ci := 9) (n := 12) (b := 2) (As := [.int (mi 0 (x3 + 1).toNatClampNeg)]) (rest := []) (by decide +kernel) (by decide +kernel) (by decide) (by decide +kernel) rfl (by decide +kernel) rfl rfl (by decide +kernel) (Nat.le_of_ble_eq_true rfl)).trans ?_
  rfl
set_option maxRecDepth 4000 in
theorem s241_1301 {L : Nat} {mi : Nat → Nat → Int32} {ml : Nat → Nat → Int64} {d : Nat} {Q : Option Value → xM → Prop} {x3 y : Int32} (h1 : xin (x3 + 1) L = true) : X 241 1301 [.ref 0, .ref 2, .ref 68, .int x3] [.int y] (SH L, mi, ml, MR) (d + 1) Q =
    Xm 234 [.ref 68, .int (mi 0 (x3 + 1).toNatClampNeg)] (SH L, mi, ml, MR) d (fun v μ' => X 241 1310 [.ref 0, .ref 2, .ref 68, .int x3] (v.toList ++ [.int y]) μ' (d + 1) Q) := by
  refine (R_pure0 (ins := .aload_n 2) (len := 1) (loc' := [.ref 0, .ref 2, .ref 68, .int x3]) (st' := [.ref 68, .int y]) (by decide +kernel) (fun _ => rfl)).trans ?_
  refine (R_pure0 (ins := .aload_n 0) (len := 1) (loc' := [.ref 0, .ref 2, .ref 68, .int x3]) (st' := [.ref 0, .ref 68, .int y]) (by decide +kernel) (fun _ => rfl)).trans ?_
  refine (R_pure0 (ins := .iload_n 3) (len := 1) (loc' := [.ref 0, .ref 2, .ref 68, .int x3]) (st' := [.int x3, .ref 0, .ref 68, .int y]) (by decide +kernel) (fun _ => rfl)).trans ?_
  refine (R_iconst (n := 1) (v := 1) (by decide +kernel) (by decide +kernel)).trans ?_
  refine (R_pure0 (ins := .iadd) (len := 1) (loc' := [.ref 0, .ref 2, .ref 68, .int x3]) (st' := [.int (x3 + 1), .ref 0, .ref 68, .int y]) (by decide +kernel) (fun _ => rfl)).trans ?_
  refine (R_iaload (kd := 105) (n := L) (by decide +kernel) rfl (by decide) (h1)).trans ?_
  refine (R_virt (i := 174) (f := 234) (kd := 0) (na := 1) (ml := 2) (ci := 10) (n := 33) (b := 68) (As := [.int (mi 0 (x3 + 1).toNatClampNeg)]) (rest := [.int y]) (by decide +kernel) (by decide +kernel) (by decide) (by decide +kernel) rfl (by decide +kernel) rfl rfl (by decide +kernel) (Nat.le_of_ble_eq_true rfl)).trans ?_
  rfl
set_option maxRecDepth 4000 in
theorem s241_1310 {L : Nat} {mi : Nat → Nat → Int32} {ml : Nat → Nat → Int64} {d : Nat} {Q : Option Value → xM → Prop} {w x3 z0 : Int32} : X 241 1310 [.ref 0, .ref 2, .ref 68, .int x3] [.int w, .int z0] (SH L, mi, ml, MR) d Q =
    if (z0 = w) then (X 241 1365 [.ref 0, .ref 2, .ref 68, .int x3] [] (SH L, mi, ml, MR) d Q) else (Q (some (.int 0)) (SH L, mi, ml, MR)) := by
  refine (R_icmp_eq (off := 55) (t := 1365) (by decide +kernel) (by decide +kernel)).trans (ite_congr rfl (fun c0 => ?_) (fun c0 => ?_))
  · rfl
  · refine (R_iconst (n := 0) (v := 0) (by decide +kernel) (by decide +kernel)).trans ?_
    exact R_zreturn (by decide +kernel) (by decide +kernel) (by decide)
set_option maxRecDepth 4000 in
theorem s241_1315 {L : Nat} {mi : Nat → Nat → Int32} {ml : Nat → Nat → Int64} {d : Nat} {Q : Option Value → xM → Prop} {x3 : Int32} : X 241 1315 [.ref 0, .ref 2, .ref 68, .int x3] [] (SH L, mi, ml, MR) (d + 1) Q =
    Xm 138 [.ref 2] (SH L, mi, ml, MR) d (fun v μ' => X 241 1319 [.ref 0, .ref 2, .ref 68, .int x3] (v.toList ++ []) μ' (d + 1) Q) := by
  refine (R_pure0 (ins := .aload_n 1) (len := 1) (loc' := [.ref 0, .ref 2, .ref 68, .int x3]) (st' := [.ref 2]) (by decide +kernel) (fun _ => rfl)).trans ?_
  refine (R_virt (i := 175) (f := 138) (kd := 0) (na := 0) (ml := 1) (ci := 9) (n := 12) (b := 2) (As := []) (rest := []) (by decide +kernel) (by decide +kernel) (by decide) (by decide +kernel) rfl (by decide +kernel) rfl rfl (by decide +kernel) (Nat.le_of_ble_eq_true rfl)).trans ?_
  rfl
set_option maxRecDepth 4000 in
theorem s241_1319 {L : Nat} {mi : Nat → Nat → Int32} {ml : Nat → Nat → Int64} {d : Nat} {Q : Option Value → xM → Prop} {x3 y : Int32} : X 241 1319 [.ref 0, .ref 2, .ref 68, .int x3] [.int y] (SH L, mi, ml, MR) (d + 1) Q =
    Xm 235 [.ref 68] (SH L, mi, ml, MR) d (fun v μ' => X 241 1323 [.ref 0, .ref 2, .ref 68, .int x3] (v.toList ++ [.int y]) μ' (d + 1) Q) := by
  refine (R_pure0 (ins := .aload_n 2) (len := 1) (loc' := [.ref 0, .ref 2, .ref 68, .int x3]) (st' := [.ref 68, .int y]) (by decide +kernel) (fun _ => rfl)).trans ?_
  refine (R_virt (i := 178) (f := 235) (kd := 0) (na := 0) (ml := 1) (ci := 10) (n := 33) (b := 68) (As := []) (rest := [.int y]) (by decide +kernel) (by decide +kernel) (by decide) (by decide +kernel) rfl (by decide +kernel) rfl rfl (by decide +kernel) (Nat.le_of_ble_eq_true rfl)).trans ?_
  rfl
set_option maxRecDepth 4000 in
theorem s241_1323 {L : Nat} {mi : Nat → Nat → Int32} {ml : Nat → Nat → Int64} {d : Nat} {Q : Option Value → xM → Prop} {w x3 z0 : Int32} : X 241 1323 [.ref 0, .ref 2, .ref 68, .int x3] [.int w, .int z0] (SH L, mi, ml, MR) d Q =
    if (z0 = w) then (X 241 1365 [.ref 0, .ref 2, .ref 68, .int x3] [] (SH L, mi, ml, MR) d Q) else (Q (some (.int 0)) (SH L, mi, ml, MR)) := by
  refine (R_icmp_eq (off := 42) (t := 1365) (by decide +kernel) (by decide +kernel)).trans (ite_congr rfl (fun c0 => ?_) (fun c0 => ?_))
  · rfl
  · refine (R_iconst (n := 0) (v := 0) (by decide +kernel) (by decide +kernel)).trans ?_
    exact R_zreturn (by decide +kernel) (by decide +kernel) (by decide)
set_option maxRecDepth 4000 in
theorem s241_1328 {L : Nat} {mi : Nat → Nat → Int32} {ml : Nat → Nat → Int64} {d : Nat} {Q : Option Value → xM → Prop} {x3 : Int32} (h1 : xin (x3 + 1) L = true) : X 241 1328 [.ref 0, .ref 2, .ref 68, .int x3] [] (SH L, mi, ml, MR) (d + 1) Q =
    Xm 139 [.ref 2, .int (mi 0 (x3 + 1).toNatClampNeg)] (SH L, mi, ml, MR) d (fun v μ' => X 241 1337 [.ref 0, .ref 2, .ref 68, .int x3] (v.toList ++ []) μ' (d + 1) Q) := by
  refine (R_pure0 (ins := .aload_n 1) (len := 1) (loc' := [.ref 0, .ref 2, .ref 68, .int x3]) (st' := [.ref 2]) (by decide +kernel) (fun _ => rfl)).trans ?_
  refine (R_pure0 (ins := .aload_n 0) (len := 1) (loc' := [.ref 0, .ref 2, .ref 68, .int x3]) (st' := [.ref 0, .ref 2]) (by decide +kernel) (fun _ => rfl)).trans ?_
  refine (R_pure0 (ins := .iload_n 3) (len := 1) (loc' := [.ref 0, .ref 2, .ref 68, .int x3]) (st' := [.int x3, .ref 0, .ref 2]) (by decide +kernel) (fun _ => rfl)).trans ?_
  refine (R_iconst (n := 1) (v := 1) (by decide +kernel) (by decide +kernel)).trans ?_
  refine (R_pure0 (ins := .iadd) (len := 1) (loc' := [.ref 0, .ref 2, .ref 68, .int x3]) (st' := [.int (x3 + 1), .ref 0, .ref 2]) (by decide +kernel) (fun _ => rfl)).trans ?_
  refine (R_iaload (kd := 105) (n := L) (by decide +kernel) rfl (by decide) (h1)).trans ?_
  refine (R_virt (i := 179) (f := 139) (kd := 0) (na := 1) (ml := 2) (ci := 9) (n := 12) (b := 2) (As := [.int (mi 0 (x3 + 1).toNatClampNeg)]) (rest := []) (by decide +kernel) (by decide +kernel) (by decide) (by decide +kernel) rfl (by decide +kernel) rfl rfl (by decide +kernel) (Nat.le_of_ble_eq_true rfl)).trans ?_
  rfl
set_option maxRecDepth 4000 in
theorem s241_1337 {L : Nat} {mi : Nat → Nat → Int32} {ml : Nat → Nat → Int64} {d : Nat} {Q : Option Value → xM → Prop} {x3 y : Int32} (h1 : xin (x3 + 1) L = true) : X 241 1337 [.ref 0, .ref 2, .ref 68, .int x3] [.int y] (SH L, mi, ml, MR) (d + 1) Q =
    Xm 236 [.ref 68, .int (mi 0 (x3 + 1).toNatClampNeg)] (SH L, mi, ml, MR) d (fun v μ' => X 241 1346 [.ref 0, .ref 2, .ref 68, .int x3] (v.toList ++ [.int y]) μ' (d + 1) Q) := by
  refine (R_pure0 (ins := .aload_n 2) (len := 1) (loc' := [.ref 0, .ref 2, .ref 68, .int x3]) (st' := [.ref 68, .int y]) (by decide +kernel) (fun _ => rfl)).trans ?_
  refine (R_pure0 (ins := .aload_n 0) (len := 1) (loc' := [.ref 0, .ref 2, .ref 68, .int x3]) (st' := [.ref 0, .ref 68, .int y]) (by decide +kernel) (fun _ => rfl)).trans ?_
  refine (R_pure0 (ins := .iload_n 3) (len := 1) (loc' := [.ref 0, .ref 2, .ref 68, .int x3]) (st' := [.int x3, .ref 0, .ref 68, .int y]) (by decide +kernel) (fun _ => rfl)).trans ?_
  refine (R_iconst (n := 1) (v := 1) (by decide +kernel) (by decide +kernel)).trans ?_
  refine (R_pure0 (ins := .iadd) (len := 1) (loc' := [.ref 0, .ref 2, .ref 68, .int x3]) (st' := [.int (x3 + 1), .ref 0, .ref 68, .int y]) (by decide +kernel) (fun _ => rfl)).trans ?_
  refine (R_iaload (kd := 105) (n := L) (by decide +kernel) rfl (by decide) (h1)).trans ?_
  refine (R_virt (i := 182) (f := 236) (kd := 0) (na := 1) (ml := 2) (ci := 10) (n := 33) (b := 68) (As := [.int (mi 0 (x3 + 1).toNatClampNeg)]) (rest := [.int y]) (by decide +kernel) (by decide +kernel) (by decide) (by decide +kernel) rfl (by decide +kernel) rfl rfl (by decide +kernel) (Nat.le_of_ble_eq_true rfl)).trans ?_
  rfl
set_option maxRecDepth 4000 in
theorem s241_1346 {L : Nat} {mi : Nat → Nat → Int32} {ml : Nat → Nat → Int64} {d : Nat} {Q : Option Value → xM → Prop} {w x3 z0 : Int32} : X 241 1346 [.ref 0, .ref 2, .ref 68, .int x3] [.int w, .int z0] (SH L, mi, ml, MR) d Q =
    if (z0 = w) then (X 241 1365 [.ref 0, .ref 2, .ref 68, .int x3] [] (SH L, mi, ml, MR) d Q) else (Q (some (.int 0)) (SH L, mi, ml, MR)) := by
  refine (R_icmp_eq (off := 19) (t := 1365) (by decide +kernel) (by decide +kernel)).trans (ite_congr rfl (fun c0 => ?_) (fun c0 => ?_))
  · rfl
  · refine (R_iconst (n := 0) (v := 0) (by decide +kernel) (by decide +kernel)).trans ?_
    exact R_zreturn (by decide +kernel) (by decide +kernel) (by decide)
set_option maxRecDepth 4000 in
theorem s241_1351 {L : Nat} {mi : Nat → Nat → Int32} {ml : Nat → Nat → Int64} {d : Nat} {Q : Option Value → xM → Prop} {x3 : Int32} : X 241 1351 [.ref 0, .ref 2, .ref 68, .int x3] [] (SH L, mi, ml, MR) (d + 1) Q =
    Xm 140 [.ref 2] (SH L, mi, ml, MR) d (fun v μ' => X 241 1355 [.ref 0, .ref 2, .ref 68, .int x3] (v.toList ++ []) μ' (d + 1) Q) := by
  refine (R_pure0 (ins := .aload_n 1) (len := 1) (loc' := [.ref 0, .ref 2, .ref 68, .int x3]) (st' := [.ref 2]) (by decide +kernel) (fun _ => rfl)).trans ?_
  refine (R_virt (i := 183) (f := 140) (kd := 0) (na := 0) (ml := 6) (ci := 9) (n := 12) (b := 2) (As := []) (rest := []) (by decide +kernel) (by decide +kernel) (by decide) (by decide +kernel) rfl (by decide +kernel) rfl rfl (by decide +kernel) (Nat.le_of_ble_eq_true rfl)).trans ?_
  rfl
set_option maxRecDepth 4000 in
theorem s241_1355 {L : Nat} {mi : Nat → Nat → Int32} {ml : Nat → Nat → Int64} {d : Nat} {Q : Option Value → xM → Prop} {x3 : Int32} {y : Int64} : X 241 1355 [.ref 0, .ref 2, .ref 68, .int x3] [.long y] (SH L, mi, ml, MR) (d + 1) Q =
    Xm 237 [.ref 68] (SH L, mi, ml, MR) d (fun v μ' => X 241 1359 [.ref 0, .ref 2, .ref 68, .int x3] (v.toList ++ [.long y]) μ' (d + 1) Q) := by
  refine (R_pure0 (ins := .aload_n 2) (len := 1) (loc' := [.ref 0, .ref 2, .ref 68, .int x3]) (st' := [.ref 68, .long y]) (by decide +kernel) (fun _ => rfl)).trans ?_
  refine (R_virt (i := 186) (f := 237) (kd := 0) (na := 0) (ml := 5) (ci := 10) (n := 33) (b := 68) (As := []) (rest := [.long y]) (by decide +kernel) (by decide +kernel) (by decide) (by decide +kernel) rfl (by decide +kernel) rfl rfl (by decide +kernel) (Nat.le_of_ble_eq_true rfl)).trans ?_
  rfl
set_option maxRecDepth 4000 in
theorem s241_1359 {L : Nat} {mi : Nat → Nat → Int32} {ml : Nat → Nat → Int64} {d : Nat} {Q : Option Value → xM → Prop} {x3 : Int32} {w z0 : Int64} : X 241 1359 [.ref 0, .ref 2, .ref 68, .int x3] [.long w, .long z0] (SH L, mi, ml, MR) d Q =
    if ((lg_cmp z0 w) = 0) then (X 241 1365 [.ref 0, .ref 2, .ref 68, .int x3] [] (SH L, mi, ml, MR) d Q) else (Q (some (.int 0)) (SH L, mi, ml, MR)) := by
  refine (R_pure0 (ins := .lcmp) (len := 1) (loc' := [.ref 0, .ref 2, .ref 68, .int x3]) (st' := [.int (lg_cmp z0 w)]) (by decide +kernel) (fun _ => rfl)).trans ?_
  refine (R_if_eq (off := 5) (t := 1365) (by decide +kernel) (by decide +kernel)).trans (ite_congr rfl (fun c0 => ?_) (fun c0 => ?_))
  · rfl
  · refine (R_iconst (n := 0) (v := 0) (by decide +kernel) (by decide +kernel)).trans ?_
    exact R_zreturn (by decide +kernel) (by decide +kernel) (by decide)
