/-! the law's loop, over one row a call -/
theorem sub6 {L : Nat} (h : L ≤ 384) (i : Nat) (hi : i < 1000) : (nI L - 6 < nI i) ↔ L < i + 6 := by
  rw [Int32.lt_iff_toInt_lt, nI_toInt (by omega)]
  rcases Nat.lt_or_ge L 6 with h6 | h6
  · have : ∀ L, L < 6 → (nI L - 6).toInt = (L : Int) - 6 := by decide
    rw [this L h6]
    omega
  · rw [show (6 : Int32) = nI 6 from rfl, nI_sub h6, nI_toInt (by omega)]
    omega
def Qend (v : Option Value) (μ' : xM) : Prop := v = some (.int 1) ∧ μ'.1.length ≤ 1000 ∧ xns μ' ≤ 100000
theorem lg_cmp_self (x : Int64) : lg_cmp x x = 0 := by simp [lg_cmp]
/-- all the calls -/
def Ops : Prop := (∀ a1 a2 : Int32, OpI 99 157 [.int a1, .int a2]) ∧ (∀ a1 a2 a3 : Int32, OpI 100 158 [.int a1, .int a2, .int a3]) ∧ (∀ a1 a2 : Int32, OpI 101 159 [.int a1, .int a2]) ∧ (∀ a1 : Int32, OpI 102 160 [.int a1]) ∧ (∀ a1 a2 a3 a4 a5 : Int32, OpI 103 161 [.int a1, .int a2, .int a3, .int a4, .int a5]) ∧ (∀ a1 : Int32, OpI 104 162 [.int a1]) ∧ (∀ a1 a2 : Int32, OpI 105 163 [.int a1, .int a2]) ∧ (∀ a1 a2 a3 : Int32, OpI 106 164 [.int a1, .int a2, .int a3]) ∧ (∀ a1 : Int32, OpI 107 170 [.int a1]) ∧ (∀ a1 : Int32, OpI 108 171 [.int a1]) ∧ (∀ a1 a2 : Int32, OpI 109 185 [.int a1, .int a2]) ∧ (∀ a1 a2 : Int32, OpI 110 186 [.int a1, .int a2]) ∧ (∀ a1 a2 : Int32, OpI 111 187 [.int a1, .int a2]) ∧ (OpI 112 190 []) ∧ (∀ a1 : Int32, OpI 113 192 [.int a1]) ∧ (∀ a1 : Int32, OpI 114 194 [.int a1]) ∧ (∀ a1 : Int32, OpI 115 196 [.int a1]) ∧ (∀ a1 : Int32, OpI 116 197 [.int a1]) ∧ (∀ a1 : Int32, OpI 117 198 [.int a1]) ∧ (∀ a1 : Int32, OpI 118 199 [.int a1]) ∧ (OpI 119 202 []) ∧ (∀ a1 a2 : Int32, OpI 120 204 [.int a1, .int a2]) ∧ (∀ a1 a2 a3 : Int32, OpI 121 205 [.int a1, .int a2, .int a3]) ∧ (∀ a1 a2 : Int32, OpI 122 209 [.int a1, .int a2]) ∧ (∀ a1 : Int32, OpI 123 212 [.int a1]) ∧ (∀ a1 : Int32, OpI 124 213 [.int a1]) ∧ (∀ a1 : Int32, OpI 125 214 [.int a1]) ∧ (∀ a1 a2 : Int32, OpI 126 217 [.int a1, .int a2]) ∧ (∀ a1 a2 : Int32, OpI 127 218 [.int a1, .int a2]) ∧ (∀ a1 a2 a3 : Int32, OpI 128 220 [.int a1, .int a2, .int a3]) ∧ (∀ a1 a2 : Int32, OpI 129 221 [.int a1, .int a2]) ∧ (∀ a1 : Int32, OpI 130 223 [.int a1]) ∧ (∀ a1 a2 : Int32, OpI 131 226 [.int a1, .int a2]) ∧ (∀ a1 : Int32, OpI 132 227 [.int a1]) ∧ (∀ a1 a2 : Int32, OpI 133 228 [.int a1, .int a2]) ∧ (OpI 134 229 []) ∧ (OpL 135 230 []) ∧ (OpL 136 231 []) ∧ (∀ a1 : Int32, OpI 137 234 [.int a1]) ∧ (OpI 138 235 []) ∧ (∀ a1 : Int32, OpI 139 236 [.int a1]) ∧ (OpL 140 237 [])
set_option maxHeartbeats 8000000 in
theorem law_loop (ops : Ops) {L : Nat} (hL : L ≤ 384) {xs : Nat → Int32} : ∀ (n i : Nat) (mi : Nat → Nat → Int32) (ml : Nat → Nat → Int64), L < i + n → i ≤ L + 6 → Inv mi ml → X 241 18 [.ref 0, .ref 2, .ref 68, .int (nI i)] [] (SH L, mi, ml, MR) 100 Qend := by
  obtain ⟨o0, o1, o2, o3, o4, o5, o6, o7, o8, o9, o10, o11, o12, o13, o14, o15, o16, o17, o18, o19, o20, o21, o22, o23, o24, o25, o26, o27, o28, o29, o30, o31, o32, o33, o34, o35, o36, o37, o38, o39, o40, o41⟩ := ops
  have hend : ∀ (mi : Nat → Nat → Int32) (ml : Nat → Nat → Int64), Qend (some (.int 1)) (SH L, mi, ml, MR) := by
    intro mi ml
    refine ⟨rfl, ?_, ?_⟩
    · show (SH L).length ≤ 1000
      have : (SH L).length = SHt.length + 1 := rfl
      rw [this]
      decide
    · show ((SH L).map fun s => s.2).sum ≤ 100000
      have e : ((SH L).map fun s => s.2).sum = L + (SHt.map fun s => s.2).sum := by simp [SH]
      have e2 : (SHt.map fun s => s.2).sum ≤ 5000 := by decide +kernel
      omega
  intro n
  induction n with
  | zero =>
    intro i mi ml hn hi hI
    rw [s241_18 (fun h => absurd ((sub6 hL i (by omega)).mpr (by omega)) h), ofNat_nI, if_pos ((sub6 hL i (by omega)).mpr (by omega))]
    exact hend mi ml
  | succ n ih =>
    intro i mi ml hn hi hI
    by_cases hd : L < i + 6
    · rw [s241_18 (fun h => absurd ((sub6 hL i (by omega)).mpr hd) h), ofNat_nI, if_pos ((sub6 hL i (by omega)).mpr hd)]
      exact hend mi ml
    have hx : ∀ j, j < 6 → xin (nI i + nI j) L = true := by
      intro j hj
      rw [nI_add]
      exact xin_nI (by omega) (by omega)
    have hx0 : xin (nI i) L = true := xin_nI (by omega) (by omega)
    have next : ∀ (mi' : Nat → Nat → Int32) (ml' : Nat → Nat → Int64), Inv mi' ml' → X 241 1365 [.ref 0, .ref 2, .ref 68, .int (nI i)] [] (SH L, mi', ml', MR) 100 Qend := by
      intro mi' ml' hI'
      rw [s241_1365, show (6 : Int32) = nI 6 from rfl, nI_add]
      exact ih (i + 6) mi' ml' (by omega) (by omega) hI'
    rw [s241_18 (fun _ => hx0), ofNat_nI, if_neg (fun h => hd ((sub6 hL i (by omega)).mp h))]
    by_cases hk0 : (mi 0 (nI i).toNatClampNeg &&& 63) = 0
    · rw [if_pos hk0, s241_216 (hx 1 (by omega)) (hx 2 (by omega))]
      refine Xm_mono (o0 _ _ L mi ml hI) ?_
      rintro v μ' ⟨y, mi', ml', ⟨y, rfl⟩, rfl, rfl, h0, hm⟩
      rw [ret1, s241_230 (hx 1 (by omega)) (hx 2 (by omega))]
      simp only [h0]
      refine Xm_mono hm ?_
      rintro w μ'' ⟨rfl, mi'', ml'', rfl, h02, hI2⟩
      rw [ret1, s241_244, if_pos rfl]
      exact next mi'' ml'' hI2
    rw [if_neg hk0]
    by_cases hk1 : (mi 0 (nI i).toNatClampNeg &&& 63) = 1
    · rw [if_pos hk1, s241_249 (hx 1 (by omega)) (hx 2 (by omega)) (hx 3 (by omega))]
      refine Xm_mono (o1 _ _ _ L mi ml hI) ?_
      rintro v μ' ⟨y, mi', ml', ⟨y, rfl⟩, rfl, rfl, h0, hm⟩
      rw [ret1, s241_268 (hx 1 (by omega)) (hx 2 (by omega)) (hx 3 (by omega))]
      simp only [h0]
      refine Xm_mono hm ?_
      rintro w μ'' ⟨rfl, mi'', ml'', rfl, h02, hI2⟩
      rw [ret1, s241_287, if_pos rfl]
      exact next mi'' ml'' hI2
    rw [if_neg hk1]
    by_cases hk2 : (mi 0 (nI i).toNatClampNeg &&& 63) = 2
    · rw [if_pos hk2, s241_292 (hx 1 (by omega)) (hx 2 (by omega))]
      refine Xm_mono (o2 _ _ L mi ml hI) ?_
      rintro v μ' ⟨y, mi', ml', ⟨y, rfl⟩, rfl, rfl, h0, hm⟩
      rw [ret1, s241_306 (hx 1 (by omega)) (hx 2 (by omega))]
      simp only [h0]
      refine Xm_mono hm ?_
      rintro w μ'' ⟨rfl, mi'', ml'', rfl, h02, hI2⟩
      rw [ret1, s241_320, if_pos rfl]
      exact next mi'' ml'' hI2
    rw [if_neg hk2]
    by_cases hk3 : (mi 0 (nI i).toNatClampNeg &&& 63) = 3
    · rw [if_pos hk3, s241_325 (hx 1 (by omega))]
      refine Xm_mono (o3 _ L mi ml hI) ?_
      rintro v μ' ⟨y, mi', ml', ⟨y, rfl⟩, rfl, rfl, h0, hm⟩
      rw [ret1, s241_334 (hx 1 (by omega))]
      simp only [h0]
      refine Xm_mono hm ?_
      rintro w μ'' ⟨rfl, mi'', ml'', rfl, h02, hI2⟩
      rw [ret1, s241_343, if_pos rfl]
      exact next mi'' ml'' hI2
    rw [if_neg hk3]
    by_cases hk4 : (mi 0 (nI i).toNatClampNeg &&& 63) = 4
    · rw [if_pos hk4, s241_348 (hx 1 (by omega)) (hx 2 (by omega)) (hx 3 (by omega)) (hx 4 (by omega)) (hx 5 (by omega))]
      refine Xm_mono (o4 _ _ _ _ _ L mi ml hI) ?_
      rintro v μ' ⟨y, mi', ml', ⟨y, rfl⟩, rfl, rfl, h0, hm⟩
      rw [ret1, s241_377 (hx 1 (by omega)) (hx 2 (by omega)) (hx 3 (by omega)) (hx 4 (by omega)) (hx 5 (by omega))]
      simp only [h0]
      refine Xm_mono hm ?_
      rintro w μ'' ⟨rfl, mi'', ml'', rfl, h02, hI2⟩
      rw [ret1, s241_406, if_pos rfl]
      exact next mi'' ml'' hI2
    rw [if_neg hk4]
    by_cases hk5 : (mi 0 (nI i).toNatClampNeg &&& 63) = 5
    · rw [if_pos hk5, s241_411 (hx 1 (by omega))]
      refine Xm_mono (o5 _ L mi ml hI) ?_
      rintro v μ' ⟨y, mi', ml', ⟨y, rfl⟩, rfl, rfl, h0, hm⟩
      rw [ret1, s241_420 (hx 1 (by omega))]
      simp only [h0]
      refine Xm_mono hm ?_
      rintro w μ'' ⟨rfl, mi'', ml'', rfl, h02, hI2⟩
      rw [ret1, s241_429, if_pos rfl]
      exact next mi'' ml'' hI2
    rw [if_neg hk5]
    by_cases hk6 : (mi 0 (nI i).toNatClampNeg &&& 63) = 6
    · rw [if_pos hk6, s241_434 (hx 1 (by omega)) (hx 2 (by omega))]
      refine Xm_mono (o6 _ _ L mi ml hI) ?_
      rintro v μ' ⟨y, mi', ml', ⟨y, rfl⟩, rfl, rfl, h0, hm⟩
      rw [ret1, s241_448 (hx 1 (by omega)) (hx 2 (by omega))]
      simp only [h0]
      refine Xm_mono hm ?_
      rintro w μ'' ⟨rfl, mi'', ml'', rfl, h02, hI2⟩
      rw [ret1, s241_462, if_pos rfl]
      exact next mi'' ml'' hI2
    rw [if_neg hk6]
    by_cases hk7 : (mi 0 (nI i).toNatClampNeg &&& 63) = 7
    · rw [if_pos hk7, s241_467 (hx 1 (by omega)) (hx 2 (by omega)) (hx 3 (by omega))]
      refine Xm_mono (o7 _ _ _ L mi ml hI) ?_
      rintro v μ' ⟨y, mi', ml', ⟨y, rfl⟩, rfl, rfl, h0, hm⟩
      rw [ret1, s241_486 (hx 1 (by omega)) (hx 2 (by omega)) (hx 3 (by omega))]
      simp only [h0]
      refine Xm_mono hm ?_
      rintro w μ'' ⟨rfl, mi'', ml'', rfl, h02, hI2⟩
      rw [ret1, s241_505, if_pos rfl]
      exact next mi'' ml'' hI2
    rw [if_neg hk7]
    by_cases hk8 : (mi 0 (nI i).toNatClampNeg &&& 63) = 8
    · rw [if_pos hk8, s241_510 (hx 1 (by omega))]
      refine Xm_mono (o8 _ L mi ml hI) ?_
      rintro v μ' ⟨y, mi', ml', ⟨y, rfl⟩, rfl, rfl, h0, hm⟩
      rw [ret1, s241_519 (hx 1 (by omega))]
      simp only [h0]
      refine Xm_mono hm ?_
      rintro w μ'' ⟨rfl, mi'', ml'', rfl, h02, hI2⟩
      rw [ret1, s241_528, if_pos rfl]
      exact next mi'' ml'' hI2
    rw [if_neg hk8]
    by_cases hk9 : (mi 0 (nI i).toNatClampNeg &&& 63) = 9
    · rw [if_pos hk9, s241_533 (hx 1 (by omega))]
      refine Xm_mono (o9 _ L mi ml hI) ?_
      rintro v μ' ⟨y, mi', ml', ⟨y, rfl⟩, rfl, rfl, h0, hm⟩
      rw [ret1, s241_542 (hx 1 (by omega))]
      simp only [h0]
      refine Xm_mono hm ?_
      rintro w μ'' ⟨rfl, mi'', ml'', rfl, h02, hI2⟩
      rw [ret1, s241_551, if_pos rfl]
      exact next mi'' ml'' hI2
    rw [if_neg hk9]
    by_cases hk10 : (mi 0 (nI i).toNatClampNeg &&& 63) = 10
    · rw [if_pos hk10, s241_556 (hx 1 (by omega)) (hx 2 (by omega))]
      refine Xm_mono (o10 _ _ L mi ml hI) ?_
      rintro v μ' ⟨y, mi', ml', ⟨y, rfl⟩, rfl, rfl, h0, hm⟩
      rw [ret1, s241_570 (hx 1 (by omega)) (hx 2 (by omega))]
      simp only [h0]
      refine Xm_mono hm ?_
      rintro w μ'' ⟨rfl, mi'', ml'', rfl, h02, hI2⟩
      rw [ret1, s241_584, if_pos rfl]
      exact next mi'' ml'' hI2
    rw [if_neg hk10]
    by_cases hk11 : (mi 0 (nI i).toNatClampNeg &&& 63) = 11
    · rw [if_pos hk11, s241_589 (hx 1 (by omega)) (hx 2 (by omega))]
      refine Xm_mono (o11 _ _ L mi ml hI) ?_
      rintro v μ' ⟨y, mi', ml', ⟨y, rfl⟩, rfl, rfl, h0, hm⟩
      rw [ret1, s241_603 (hx 1 (by omega)) (hx 2 (by omega))]
      simp only [h0]
      refine Xm_mono hm ?_
      rintro w μ'' ⟨rfl, mi'', ml'', rfl, h02, hI2⟩
      rw [ret1, s241_617, if_pos rfl]
      exact next mi'' ml'' hI2
    rw [if_neg hk11]
    by_cases hk12 : (mi 0 (nI i).toNatClampNeg &&& 63) = 12
    · rw [if_pos hk12, s241_622 (hx 1 (by omega)) (hx 2 (by omega))]
      refine Xm_mono (o12 _ _ L mi ml hI) ?_
      rintro v μ' ⟨y, mi', ml', ⟨y, rfl⟩, rfl, rfl, h0, hm⟩
      rw [ret1, s241_636 (hx 1 (by omega)) (hx 2 (by omega))]
      simp only [h0]
      refine Xm_mono hm ?_
      rintro w μ'' ⟨rfl, mi'', ml'', rfl, h02, hI2⟩
      rw [ret1, s241_650, if_pos rfl]
      exact next mi'' ml'' hI2
    rw [if_neg hk12]
    by_cases hk13 : (mi 0 (nI i).toNatClampNeg &&& 63) = 13
    · rw [if_pos hk13, s241_655]
      refine Xm_mono (o13 L mi ml hI) ?_
      rintro v μ' ⟨y, mi', ml', ⟨y, rfl⟩, rfl, rfl, h0, hm⟩
      rw [ret1, s241_659]
      refine Xm_mono hm ?_
      rintro w μ'' ⟨rfl, mi'', ml'', rfl, h02, hI2⟩
      rw [ret1, s241_663, if_pos rfl]
      exact next mi'' ml'' hI2
    rw [if_neg hk13]
    by_cases hk14 : (mi 0 (nI i).toNatClampNeg &&& 63) = 14
    · rw [if_pos hk14, s241_668 (hx 1 (by omega))]
      refine Xm_mono (o14 _ L mi ml hI) ?_
      rintro v μ' ⟨y, mi', ml', ⟨y, rfl⟩, rfl, rfl, h0, hm⟩
      rw [ret1, s241_677 (hx 1 (by omega))]
      simp only [h0]
      refine Xm_mono hm ?_
      rintro w μ'' ⟨rfl, mi'', ml'', rfl, h02, hI2⟩
      rw [ret1, s241_686, if_pos rfl]
      exact next mi'' ml'' hI2
    rw [if_neg hk14]
    by_cases hk15 : (mi 0 (nI i).toNatClampNeg &&& 63) = 15
    · rw [if_pos hk15, s241_691 (hx 1 (by omega))]
      refine Xm_mono (o15 _ L mi ml hI) ?_
      rintro v μ' ⟨y, mi', ml', ⟨y, rfl⟩, rfl, rfl, h0, hm⟩
      rw [ret1, s241_700 (hx 1 (by omega))]
      simp only [h0]
      refine Xm_mono hm ?_
      rintro w μ'' ⟨rfl, mi'', ml'', rfl, h02, hI2⟩
      rw [ret1, s241_709, if_pos rfl]
      exact next mi'' ml'' hI2
    rw [if_neg hk15]
    by_cases hk16 : (mi 0 (nI i).toNatClampNeg &&& 63) = 16
    · rw [if_pos hk16, s241_714 (hx 1 (by omega))]
      refine Xm_mono (o16 _ L mi ml hI) ?_
      rintro v μ' ⟨y, mi', ml', ⟨y, rfl⟩, rfl, rfl, h0, hm⟩
      rw [ret1, s241_723 (hx 1 (by omega))]
      simp only [h0]
      refine Xm_mono hm ?_
      rintro w μ'' ⟨rfl, mi'', ml'', rfl, h02, hI2⟩
      rw [ret1, s241_732, if_pos rfl]
      exact next mi'' ml'' hI2
    rw [if_neg hk16]
    by_cases hk17 : (mi 0 (nI i).toNatClampNeg &&& 63) = 17
    · rw [if_pos hk17, s241_737 (hx 1 (by omega))]
      refine Xm_mono (o17 _ L mi ml hI) ?_
      rintro v μ' ⟨y, mi', ml', ⟨y, rfl⟩, rfl, rfl, h0, hm⟩
      rw [ret1, s241_746 (hx 1 (by omega))]
      simp only [h0]
      refine Xm_mono hm ?_
      rintro w μ'' ⟨rfl, mi'', ml'', rfl, h02, hI2⟩
      rw [ret1, s241_755, if_pos rfl]
      exact next mi'' ml'' hI2
    rw [if_neg hk17]
    by_cases hk18 : (mi 0 (nI i).toNatClampNeg &&& 63) = 18
    · rw [if_pos hk18, s241_760 (hx 1 (by omega))]
      refine Xm_mono (o18 _ L mi ml hI) ?_
      rintro v μ' ⟨y, mi', ml', ⟨y, rfl⟩, rfl, rfl, h0, hm⟩
      rw [ret1, s241_769 (hx 1 (by omega))]
      simp only [h0]
      refine Xm_mono hm ?_
      rintro w μ'' ⟨rfl, mi'', ml'', rfl, h02, hI2⟩
      rw [ret1, s241_778, if_pos rfl]
      exact next mi'' ml'' hI2
    rw [if_neg hk18]
    by_cases hk19 : (mi 0 (nI i).toNatClampNeg &&& 63) = 19
    · rw [if_pos hk19, s241_783 (hx 1 (by omega))]
      refine Xm_mono (o19 _ L mi ml hI) ?_
      rintro v μ' ⟨y, mi', ml', ⟨y, rfl⟩, rfl, rfl, h0, hm⟩
      rw [ret1, s241_792 (hx 1 (by omega))]
      simp only [h0]
      refine Xm_mono hm ?_
      rintro w μ'' ⟨rfl, mi'', ml'', rfl, h02, hI2⟩
      rw [ret1, s241_801, if_pos rfl]
      exact next mi'' ml'' hI2
    rw [if_neg hk19]
    by_cases hk20 : (mi 0 (nI i).toNatClampNeg &&& 63) = 20
    · rw [if_pos hk20, s241_806]
      refine Xm_mono (o20 L mi ml hI) ?_
      rintro v μ' ⟨y, mi', ml', ⟨y, rfl⟩, rfl, rfl, h0, hm⟩
      rw [ret1, s241_810]
      refine Xm_mono hm ?_
      rintro w μ'' ⟨rfl, mi'', ml'', rfl, h02, hI2⟩
      rw [ret1, s241_814, if_pos rfl]
      exact next mi'' ml'' hI2
    rw [if_neg hk20]
    by_cases hk21 : (mi 0 (nI i).toNatClampNeg &&& 63) = 21
    · rw [if_pos hk21, s241_819 (hx 1 (by omega)) (hx 2 (by omega))]
      refine Xm_mono (o21 _ _ L mi ml hI) ?_
      rintro v μ' ⟨y, mi', ml', ⟨y, rfl⟩, rfl, rfl, h0, hm⟩
      rw [ret1, s241_833 (hx 1 (by omega)) (hx 2 (by omega))]
      simp only [h0]
      refine Xm_mono hm ?_
      rintro w μ'' ⟨rfl, mi'', ml'', rfl, h02, hI2⟩
      rw [ret1, s241_847, if_pos rfl]
      exact next mi'' ml'' hI2
    rw [if_neg hk21]
    by_cases hk22 : (mi 0 (nI i).toNatClampNeg &&& 63) = 22
    · rw [if_pos hk22, s241_852 (hx 1 (by omega)) (hx 2 (by omega)) (hx 3 (by omega))]
      refine Xm_mono (o22 _ _ _ L mi ml hI) ?_
      rintro v μ' ⟨y, mi', ml', ⟨y, rfl⟩, rfl, rfl, h0, hm⟩
      rw [ret1, s241_871 (hx 1 (by omega)) (hx 2 (by omega)) (hx 3 (by omega))]
      simp only [h0]
      refine Xm_mono hm ?_
      rintro w μ'' ⟨rfl, mi'', ml'', rfl, h02, hI2⟩
      rw [ret1, s241_890, if_pos rfl]
      exact next mi'' ml'' hI2
    rw [if_neg hk22]
    by_cases hk23 : (mi 0 (nI i).toNatClampNeg &&& 63) = 23
    · rw [if_pos hk23, s241_895 (hx 1 (by omega)) (hx 2 (by omega))]
      refine Xm_mono (o23 _ _ L mi ml hI) ?_
      rintro v μ' ⟨y, mi', ml', ⟨y, rfl⟩, rfl, rfl, h0, hm⟩
      rw [ret1, s241_909 (hx 1 (by omega)) (hx 2 (by omega))]
      simp only [h0]
      refine Xm_mono hm ?_
      rintro w μ'' ⟨rfl, mi'', ml'', rfl, h02, hI2⟩
      rw [ret1, s241_923, if_pos rfl]
      exact next mi'' ml'' hI2
    rw [if_neg hk23]
    by_cases hk24 : (mi 0 (nI i).toNatClampNeg &&& 63) = 24
    · rw [if_pos hk24, s241_928 (hx 1 (by omega))]
      refine Xm_mono (o24 _ L mi ml hI) ?_
      rintro v μ' ⟨y, mi', ml', ⟨y, rfl⟩, rfl, rfl, h0, hm⟩
      rw [ret1, s241_937 (hx 1 (by omega))]
      simp only [h0]
      refine Xm_mono hm ?_
      rintro w μ'' ⟨rfl, mi'', ml'', rfl, h02, hI2⟩
      rw [ret1, s241_946, if_pos rfl]
      exact next mi'' ml'' hI2
    rw [if_neg hk24]
    by_cases hk25 : (mi 0 (nI i).toNatClampNeg &&& 63) = 25
    · rw [if_pos hk25, s241_951 (hx 1 (by omega))]
      refine Xm_mono (o25 _ L mi ml hI) ?_
      rintro v μ' ⟨y, mi', ml', ⟨y, rfl⟩, rfl, rfl, h0, hm⟩
      rw [ret1, s241_960 (hx 1 (by omega))]
      simp only [h0]
      refine Xm_mono hm ?_
      rintro w μ'' ⟨rfl, mi'', ml'', rfl, h02, hI2⟩
      rw [ret1, s241_969, if_pos rfl]
      exact next mi'' ml'' hI2
    rw [if_neg hk25]
    by_cases hk26 : (mi 0 (nI i).toNatClampNeg &&& 63) = 26
    · rw [if_pos hk26, s241_974 (hx 1 (by omega))]
      refine Xm_mono (o26 _ L mi ml hI) ?_
      rintro v μ' ⟨y, mi', ml', ⟨y, rfl⟩, rfl, rfl, h0, hm⟩
      rw [ret1, s241_983 (hx 1 (by omega))]
      simp only [h0]
      refine Xm_mono hm ?_
      rintro w μ'' ⟨rfl, mi'', ml'', rfl, h02, hI2⟩
      rw [ret1, s241_992, if_pos rfl]
      exact next mi'' ml'' hI2
    rw [if_neg hk26]
    by_cases hk27 : (mi 0 (nI i).toNatClampNeg &&& 63) = 27
    · rw [if_pos hk27, s241_997 (hx 1 (by omega)) (hx 2 (by omega))]
      refine Xm_mono (o27 _ _ L mi ml hI) ?_
      rintro v μ' ⟨y, mi', ml', ⟨y, rfl⟩, rfl, rfl, h0, hm⟩
      rw [ret1, s241_1011 (hx 1 (by omega)) (hx 2 (by omega))]
      simp only [h0]
      refine Xm_mono hm ?_
      rintro w μ'' ⟨rfl, mi'', ml'', rfl, h02, hI2⟩
      rw [ret1, s241_1025, if_pos rfl]
      exact next mi'' ml'' hI2
    rw [if_neg hk27]
    by_cases hk28 : (mi 0 (nI i).toNatClampNeg &&& 63) = 28
    · rw [if_pos hk28, s241_1030 (hx 1 (by omega)) (hx 2 (by omega))]
      refine Xm_mono (o28 _ _ L mi ml hI) ?_
      rintro v μ' ⟨y, mi', ml', ⟨y, rfl⟩, rfl, rfl, h0, hm⟩
      rw [ret1, s241_1044 (hx 1 (by omega)) (hx 2 (by omega))]
      simp only [h0]
      refine Xm_mono hm ?_
      rintro w μ'' ⟨rfl, mi'', ml'', rfl, h02, hI2⟩
      rw [ret1, s241_1058, if_pos rfl]
      exact next mi'' ml'' hI2
    rw [if_neg hk28]
    by_cases hk29 : (mi 0 (nI i).toNatClampNeg &&& 63) = 29
    · rw [if_pos hk29, s241_1063 (hx 1 (by omega)) (hx 2 (by omega)) (hx 3 (by omega))]
      refine Xm_mono (o29 _ _ _ L mi ml hI) ?_
      rintro v μ' ⟨y, mi', ml', ⟨y, rfl⟩, rfl, rfl, h0, hm⟩
      rw [ret1, s241_1082 (hx 1 (by omega)) (hx 2 (by omega)) (hx 3 (by omega))]
      simp only [h0]
      refine Xm_mono hm ?_
      rintro w μ'' ⟨rfl, mi'', ml'', rfl, h02, hI2⟩
      rw [ret1, s241_1101, if_pos rfl]
      exact next mi'' ml'' hI2
    rw [if_neg hk29]
    by_cases hk30 : (mi 0 (nI i).toNatClampNeg &&& 63) = 30
    · rw [if_pos hk30, s241_1106 (hx 1 (by omega)) (hx 2 (by omega))]
      refine Xm_mono (o30 _ _ L mi ml hI) ?_
      rintro v μ' ⟨y, mi', ml', ⟨y, rfl⟩, rfl, rfl, h0, hm⟩
      rw [ret1, s241_1120 (hx 1 (by omega)) (hx 2 (by omega))]
      simp only [h0]
      refine Xm_mono hm ?_
      rintro w μ'' ⟨rfl, mi'', ml'', rfl, h02, hI2⟩
      rw [ret1, s241_1134, if_pos rfl]
      exact next mi'' ml'' hI2
    rw [if_neg hk30]
    by_cases hk31 : (mi 0 (nI i).toNatClampNeg &&& 63) = 31
    · rw [if_pos hk31, s241_1139 (hx 1 (by omega))]
      refine Xm_mono (o31 _ L mi ml hI) ?_
      rintro v μ' ⟨y, mi', ml', ⟨y, rfl⟩, rfl, rfl, h0, hm⟩
      rw [ret1, s241_1148 (hx 1 (by omega))]
      simp only [h0]
      refine Xm_mono hm ?_
      rintro w μ'' ⟨rfl, mi'', ml'', rfl, h02, hI2⟩
      rw [ret1, s241_1157, if_pos rfl]
      exact next mi'' ml'' hI2
    rw [if_neg hk31]
    by_cases hk32 : (mi 0 (nI i).toNatClampNeg &&& 63) = 32
    · rw [if_pos hk32, s241_1162 (hx 1 (by omega)) (hx 2 (by omega))]
      refine Xm_mono (o32 _ _ L mi ml hI) ?_
      rintro v μ' ⟨y, mi', ml', ⟨y, rfl⟩, rfl, rfl, h0, hm⟩
      rw [ret1, s241_1176 (hx 1 (by omega)) (hx 2 (by omega))]
      simp only [h0]
      refine Xm_mono hm ?_
      rintro w μ'' ⟨rfl, mi'', ml'', rfl, h02, hI2⟩
      rw [ret1, s241_1190, if_pos rfl]
      exact next mi'' ml'' hI2
    rw [if_neg hk32]
    by_cases hk33 : (mi 0 (nI i).toNatClampNeg &&& 63) = 33
    · rw [if_pos hk33, s241_1195 (hx 1 (by omega))]
      refine Xm_mono (o33 _ L mi ml hI) ?_
      rintro v μ' ⟨y, mi', ml', ⟨y, rfl⟩, rfl, rfl, h0, hm⟩
      rw [ret1, s241_1204 (hx 1 (by omega))]
      simp only [h0]
      refine Xm_mono hm ?_
      rintro w μ'' ⟨rfl, mi'', ml'', rfl, h02, hI2⟩
      rw [ret1, s241_1213, if_pos rfl]
      exact next mi'' ml'' hI2
    rw [if_neg hk33]
    by_cases hk34 : (mi 0 (nI i).toNatClampNeg &&& 63) = 34
    · rw [if_pos hk34, s241_1218 (hx 1 (by omega)) (hx 2 (by omega))]
      refine Xm_mono (o34 _ _ L mi ml hI) ?_
      rintro v μ' ⟨y, mi', ml', ⟨y, rfl⟩, rfl, rfl, h0, hm⟩
      rw [ret1, s241_1232 (hx 1 (by omega)) (hx 2 (by omega))]
      simp only [h0]
      refine Xm_mono hm ?_
      rintro w μ'' ⟨rfl, mi'', ml'', rfl, h02, hI2⟩
      rw [ret1, s241_1246, if_pos rfl]
      exact next mi'' ml'' hI2
    rw [if_neg hk34]
    by_cases hk35 : (mi 0 (nI i).toNatClampNeg &&& 63) = 35
    · rw [if_pos hk35, s241_1251]
      refine Xm_mono (o35 L mi ml hI) ?_
      rintro v μ' ⟨y, mi', ml', ⟨y, rfl⟩, rfl, rfl, h0, hm⟩
      rw [ret1, s241_1255]
      refine Xm_mono hm ?_
      rintro w μ'' ⟨rfl, mi'', ml'', rfl, h02, hI2⟩
      rw [ret1, s241_1259, if_pos rfl]
      exact next mi'' ml'' hI2
    rw [if_neg hk35]
    by_cases hk36 : (mi 0 (nI i).toNatClampNeg &&& 63) = 36
    · rw [if_pos hk36, s241_1264]
      refine Xm_mono (o36 L mi ml hI) ?_
      rintro v μ' ⟨y, mi', ml', ⟨y, rfl⟩, rfl, rfl, h0, hm⟩
      rw [ret1, s241_1268]
      refine Xm_mono hm ?_
      rintro w μ'' ⟨rfl, mi'', ml'', rfl, h02, hI2⟩
      rw [ret1, s241_1272, lg_cmp_self, if_pos rfl]
      exact next mi'' ml'' hI2
    rw [if_neg hk36]
    by_cases hk37 : (mi 0 (nI i).toNatClampNeg &&& 63) = 37
    · rw [if_pos hk37, s241_1278]
      refine Xm_mono (o37 L mi ml hI) ?_
      rintro v μ' ⟨y, mi', ml', ⟨y, rfl⟩, rfl, rfl, h0, hm⟩
      rw [ret1, s241_1282]
      refine Xm_mono hm ?_
      rintro w μ'' ⟨rfl, mi'', ml'', rfl, h02, hI2⟩
      rw [ret1, s241_1286, lg_cmp_self, if_pos rfl]
      exact next mi'' ml'' hI2
    rw [if_neg hk37]
    by_cases hk38 : (mi 0 (nI i).toNatClampNeg &&& 63) = 38
    · rw [if_pos hk38, s241_1292 (hx 1 (by omega))]
      refine Xm_mono (o38 _ L mi ml hI) ?_
      rintro v μ' ⟨y, mi', ml', ⟨y, rfl⟩, rfl, rfl, h0, hm⟩
      rw [ret1, s241_1301 (hx 1 (by omega))]
      simp only [h0]
      refine Xm_mono hm ?_
      rintro w μ'' ⟨rfl, mi'', ml'', rfl, h02, hI2⟩
      rw [ret1, s241_1310, if_pos rfl]
      exact next mi'' ml'' hI2
    rw [if_neg hk38]
    by_cases hk39 : (mi 0 (nI i).toNatClampNeg &&& 63) = 39
    · rw [if_pos hk39, s241_1315]
      refine Xm_mono (o39 L mi ml hI) ?_
      rintro v μ' ⟨y, mi', ml', ⟨y, rfl⟩, rfl, rfl, h0, hm⟩
      rw [ret1, s241_1319]
      refine Xm_mono hm ?_
      rintro w μ'' ⟨rfl, mi'', ml'', rfl, h02, hI2⟩
      rw [ret1, s241_1323, if_pos rfl]
      exact next mi'' ml'' hI2
    rw [if_neg hk39]
    by_cases hk40 : (mi 0 (nI i).toNatClampNeg &&& 63) = 40
    · rw [if_pos hk40, s241_1328 (hx 1 (by omega))]
      refine Xm_mono (o40 _ L mi ml hI) ?_
      rintro v μ' ⟨y, mi', ml', ⟨y, rfl⟩, rfl, rfl, h0, hm⟩
      rw [ret1, s241_1337 (hx 1 (by omega))]
      simp only [h0]
      refine Xm_mono hm ?_
      rintro w μ'' ⟨rfl, mi'', ml'', rfl, h02, hI2⟩
      rw [ret1, s241_1346, if_pos rfl]
      exact next mi'' ml'' hI2
    rw [if_neg hk40]
    by_cases hk41 : (mi 0 (nI i).toNatClampNeg &&& 63) = 41
    · rw [if_pos hk41, s241_1351]
      refine Xm_mono (o41 L mi ml hI) ?_
      rintro v μ' ⟨y, mi', ml', ⟨y, rfl⟩, rfl, rfl, h0, hm⟩
      rw [ret1, s241_1355]
      refine Xm_mono hm ?_
      rintro w μ'' ⟨rfl, mi'', ml'', rfl, h02, hI2⟩
      rw [ret1, s241_1359, lg_cmp_self, if_pos rfl]
      exact next mi'' ml'' hI2
    rw [if_neg hk41]
    exact next mi ml hI
