/-! the small machine: the bytecode of this system over numbered cells; X says that it comes to an end with Q -/
abbrev xSh : Type := List (Nat × Nat)
/-- shapes; ints, longs, references by cell and place -/
abbrev xM : Type := xSh × (Nat → Nat → Int32) × (Nat → Nat → Int64) × (Nat → Nat → Option Nat)
def xmk : Value := .retAddr 0
def xw {α : Type} (m : Nat → Nat → α) (a k : Nat) (v : α) : Nat → Nat → α := fun b j => if b = a ∧ j = k then v else m b j
def xz {α : Type} (m : Nat → Nat → α) (a : Nat) (v : α) : Nat → Nat → α := fun b j => if b = a then v else m b j
/-- places: 0 int, 1 long, 2 reference, 3 boolean; by class in vwCl -/
def xFy : List (List Nat) := [[2, 1, 1], [2, 2], [2, 2, 0, 0, 0], [2, 2, 2], [0, 0, 0, 0, 0, 0, 3], [2], [2, 2, 2, 2, 2, 2, 2, 0, 0, 0, 0, 0], [2], [2, 0], [2, 2, 2, 2, 2, 2, 2, 2, 2, 2, 0, 0], [2, 2, 2, 2, 0, 2, 2, 2, 2, 2, 0, 2, 2, 2, 0, 1, 1, 0, 2, 0, 0, 2, 2, 2, 2, 0, 0, 0, 0, 2, 2, 2, 2]]
def xft (ci k : Nat) : Nat := (xFy.getD ci []).getD k 0
/-- class number to its place in vwCl (50: none) -/
def xci (c : Nat) : Nat := ([0, 1, 2, 3, 50, 4, 5, 6, 7, 8, 9, 10] : List Nat).getD c 50
abbrev xR1 : Type := (Nat × List Value × List Value × xM) ⊕ (Option Value ⊕ (Nat × List Value × List Value))
def xnx (pc : Nat) (loc st : List Value) (μ : xM) : Option xR1 := some (.inl (pc, loc, st, μ))
def xgo (pc : Nat) (off : Int) (loc st : List Value) (μ : xM) : Option xR1 := match (pc : Int) + off with
  | .ofNat t => xnx t loc st μ
  | _ => none
def xbr (b : Prop) [Decidable b] (pc : Nat) (off : Int) (loc st : List Value) (μ : xM) : Option xR1 := match (pc : Int) + off with
  | .ofNat t => if b then xnx t loc st μ else xnx (pc + 3) loc st μ
  | _ => none
def xcond (c : ClassFile.Cond) (x y : Int32) : Bool := match c with
  | .eq => decide (x = y)
  | .ne => decide (¬ x = y)
  | .lt => decide (x < y)
  | .ge => decide (y ≤ x)
  | .gt => decide (y < x)
  | .le => decide (x ≤ y)
def xget (ci k a : Nat) (μ : xM) : Value := match xft ci k with
  | 1 => .long (μ.2.2.1 a k)
  | 2 => va_rf (μ.2.2.2 a k)
  | _ => .int (μ.2.1 a k)
def xput (ini : Bool) (ci k a : Nat) (v : Value) (μ : xM) : Option xM := match xft ci k, v with
  | 0, .int x => some (μ.1, xw μ.2.1 a k x, μ.2.2.1, μ.2.2.2)
  | 3, .int x => if x = 0 ∨ x = 1 then some (μ.1, xw μ.2.1 a k x, μ.2.2.1, μ.2.2.2) else none
  | 1, .long x => some (μ.1, μ.2.1, xw μ.2.2.1 a k x, μ.2.2.2)
  | 2, .ref b => if ini then some (μ.1, μ.2.1, μ.2.2.1, xw μ.2.2.2 a k (some b)) else none
  | _, _ => none
def xmake (s : Nat × Nat) (μ : xM) : xM := (μ.1 ++ [s], xz μ.2.1 μ.1.length 0, xz μ.2.2.1 μ.1.length 0, xz μ.2.2.2 μ.1.length none)
def xin (i : Int32) (n : Nat) : Bool := !(decide (i < 0) || decide (n ≤ i.toNatClampNeg))
def xcat (st : List Value) : Bool := decide ((st.map fun v => v.category).sum ≤ 8)
def xsl (vs : List Value) : List Value := vs.flatMap fun v => if v.category = 2 then [v, xmk] else [v]
def xcall (f : Nat) (as rest : List Value) : Option xR1 := if xcat rest && decide ((xsl as).length ≤ (xm f).2.2.2.1) then some (.inr (.inr (f, as, rest))) else none
def xinv (kd f : Nat) (pc : Nat) (loc st : List Value) (μ : xM) : Option xR1 :=
  let n := (xm f).2.2.2.2.2.1
  if (st.take n).length = n then
    (match kd with
    | 2 | 3 => xcall f (st.take n).reverse (st.drop n)
    | 0 | 1 => match st.drop n with
      | .ref b :: rest => match μ.1[b]? with
        | some (ci, _) => if ci = xci (xm f).1 then xcall f (.ref b :: (st.take n).reverse) rest else none
        | none => none
      | _ => none
    | 4 | 5 => match st.drop n with
      | .ref b :: rest => xcall f (.ref b :: (st.take n).reverse) rest
      | _ => none
    | _ => none)
  else none
def xcpy (m : Nat → Nat → Int32) (a0 sp a1 dp n : Nat) : Nat → Nat → Int32 := fun b j => if b = a1 ∧ dp ≤ j ∧ j < dp + n then m a0 (sp + (j - dp)) else m b j
def xarc (pc : Nat) (loc st : List Value) (μ : xM) : Option xR1 := match st with
  | .int n :: .int dp :: .ref a1 :: .int sp :: .ref a0 :: rest => match μ.1[a0]?, μ.1[a1]? with
    | some (100, n0), some (100, n1) => if ¬ sp < 0 ∧ ¬ dp < 0 ∧ ¬ n < 0 ∧ sp.toNatClampNeg + n.toNatClampNeg ≤ n0 ∧ dp.toNatClampNeg + n.toNatClampNeg ≤ n1 ∧ xcat rest = true then xnx (pc + 3) loc rest (μ.1, xcpy μ.2.1 a0 sp.toNatClampNeg a1 dp.toNatClampNeg n.toNatClampNeg, μ.2.2.1, μ.2.2.2) else none
    | _, _ => none
  | _ => none
def xst1 (i : Nat) (v : Value) (loc : List Value) : List Value := loc.set i v
def xst2 (i : Nat) (v : Value) (loc : List Value) : List Value := (loc.set i v).set (i + 1) xmk
/-- what needs no cell: constants, locals, stack, arithmetic -/
def xpure (c : Nat) (ins : Instr) (loc st : List Value) : Option (List Value × List Value) := match ins with
  | .iconst n => some (loc, .int (Int32.ofInt n) :: st)
  | .bipush n => some (loc, .int (Int8.ofInt n).toInt32 :: st)
  | .sipush n => some (loc, .int (Int16.ofInt n).toInt32 :: st)
  | .lconst n => some (loc, .long (Int64.ofNat (n : Nat)) :: st)
  | .aconst_null => some (loc, .null :: st)
  | .ldc i => match xKI.lookup (c * 1000 + i) with
    | some (v, _) => some (loc, .int v :: st)
    | none => none
  | .ldc_w i => match xKI.lookup (c * 1000 + i) with
    | some (v, _) => some (loc, .int v :: st)
    | none => none
  | .ldc2_w i => match xKL.lookup (c * 1000 + i) with
    | some (v, _) => some (loc, .long v :: st)
    | none => none
  | .iload_n k => match loc[k.val]? with
    | some (.int x) => some (loc, .int x :: st)
    | _ => none
  | .iload k => match loc[k]? with
    | some (.int x) => some (loc, .int x :: st)
    | _ => none
  | .aload_n k => match loc[k.val]? with
    | some (.ref x) => some (loc, .ref x :: st)
    | some .null => some (loc, .null :: st)
    | _ => none
  | .aload k => match loc[k]? with
    | some (.ref x) => some (loc, .ref x :: st)
    | some .null => some (loc, .null :: st)
    | _ => none
  | .lload_n k => match loc[k.val]?, loc[k.val + 1]? with
    | some (.long x), some (.retAddr _) => some (loc, .long x :: st)
    | _, _ => none
  | .lload k => match loc[k]?, loc[k + 1]? with
    | some (.long x), some (.retAddr _) => some (loc, .long x :: st)
    | _, _ => none
  | .istore_n k => match st with
    | .int x :: r => if k.val < loc.length then some (xst1 k.val (.int x) loc, r) else none
    | _ => none
  | .istore k => match st with
    | .int x :: r => if k < loc.length then some (xst1 k (.int x) loc, r) else none
    | _ => none
  | .astore_n k => match st with
    | .ref x :: r => if k.val < loc.length then some (xst1 k.val (.ref x) loc, r) else none
    | .null :: r => if k.val < loc.length then some (xst1 k.val .null loc, r) else none
    | _ => none
  | .astore k => match st with
    | .ref x :: r => if k < loc.length then some (xst1 k (.ref x) loc, r) else none
    | .null :: r => if k < loc.length then some (xst1 k .null loc, r) else none
    | _ => none
  | .lstore_n k => match st with
    | .long x :: r => if k.val + 1 < loc.length then some (xst2 k.val (.long x) loc, r) else none
    | _ => none
  | .lstore k => match st with
    | .long x :: r => if k + 1 < loc.length then some (xst2 k (.long x) loc, r) else none
    | _ => none
  | .iinc k n => match loc[k]? with
    | some (.int x) => some (xst1 k (.int (x + Int32.ofInt n)) loc, st)
    | _ => none
  | .iadd => match st with
    | .int y :: .int x :: r => some (loc, .int (x + y) :: r)
    | _ => none
  | .isub => match st with
    | .int y :: .int x :: r => some (loc, .int (x - y) :: r)
    | _ => none
  | .imul => match st with
    | .int y :: .int x :: r => some (loc, .int (x * y) :: r)
    | _ => none
  | .iand => match st with
    | .int y :: .int x :: r => some (loc, .int (x &&& y) :: r)
    | _ => none
  | .ior => match st with
    | .int y :: .int x :: r => some (loc, .int (x ||| y) :: r)
    | _ => none
  | .ixor => match st with
    | .int y :: .int x :: r => some (loc, .int (x ^^^ y) :: r)
    | _ => none
  | .idiv => match st with
    | .int y :: .int x :: r => if y = 0 then none else some (loc, .int (x / y) :: r)
    | _ => none
  | .irem => match st with
    | .int y :: .int x :: r => if y = 0 then none else some (loc, .int (x - x / y * y) :: r)
    | _ => none
  | .ishl => match st with
    | .int y :: .int x :: r => some (loc, .int (x <<< (y &&& 31)) :: r)
    | _ => none
  | .ishr => match st with
    | .int y :: .int x :: r => some (loc, .int (x >>> (y &&& 31)) :: r)
    | _ => none
  | .iushr => match st with
    | .int y :: .int x :: r => some (loc, .int (x.toUInt32 >>> (y.toUInt32 &&& Int32.toUInt32 31)).toInt32 :: r)
    | _ => none
  | .ladd => match st with
    | .long y :: .long x :: r => some (loc, .long (x + y) :: r)
    | _ => none
  | .lsub => match st with
    | .long y :: .long x :: r => some (loc, .long (x - y) :: r)
    | _ => none
  | .lmul => match st with
    | .long y :: .long x :: r => some (loc, .long (x * y) :: r)
    | _ => none
  | .ldiv => match st with
    | .long y :: .long x :: r => if y = 0 then none else some (loc, .long (x / y) :: r)
    | _ => none
  | .lrem => match st with
    | .long y :: .long x :: r => if y = 0 then none else some (loc, .long (x - x / y * y) :: r)
    | _ => none
  | .lcmp => match st with
    | .long y :: .long x :: r => some (loc, .int (lg_cmp x y) :: r)
    | _ => none
  | .i2l => match st with
    | .int x :: r => some (loc, .long x.toInt64 :: r)
    | _ => none
  | .l2i => match st with
    | .long x :: r => some (loc, .int x.toInt32 :: r)
    | _ => none
  | .i2b => match st with
    | .int x :: r => some (loc, .int x.toInt8.toInt32 :: r)
    | _ => none
  | .dup => match st with
    | .int x :: r => some (loc, .int x :: .int x :: r)
    | .ref x :: r => some (loc, .ref x :: .ref x :: r)
    | _ => none
  | .dup2 => match st with
    | .int x :: .ref y :: r => some (loc, .int x :: .ref y :: .int x :: .ref y :: r)
    | .int x :: .int y :: r => some (loc, .int x :: .int y :: .int x :: .int y :: r)
    | .long x :: r => some (loc, .long x :: .long x :: r)
    | _ => none
  | _ => none
/-- jumps -/
def xjump (ins : Instr) (pc : Nat) (loc st : List Value) (μ : xM) : Option xR1 := match ins with
  | .goto off => xgo pc off loc st μ
  | .ifCond c off => match st with
    | .int x :: r => xbr (xcond c x 0 = true) pc off loc r μ
    | _ => none
  | .if_icmp c off => match st with
    | .int y :: .int x :: r => xbr (xcond c x y = true) pc off loc r μ
    | _ => none
  | .ifnull off => match st with
    | .null :: r => xgo pc off loc r μ
    | .ref _ :: r => xnx (pc + 3) loc r μ
    | _ => none
  | .ifnonnull off => match st with
    | .null :: r => xnx (pc + 3) loc r μ
    | .ref _ :: r => xgo pc off loc r μ
    | _ => none
  | .tableswitch dflt lo hi offs => match st with
    | .int x :: r => if x.toInt < lo ∨ hi < x.toInt then xgo pc dflt loc r μ else match offs[(x.toInt - lo).toNat]? with
      | some off => xgo pc off loc r μ
      | none => none
    | _ => none
  | _ => none
/-- what reads, writes, makes cells -/
def xheap (mid c : Nat) (ins : Instr) (pc : Nat) (loc st : List Value) (μ : xM) : Option xR1 := match ins with
  | .getfield i => match st with
    | .ref a :: r => match xFT.lookup (c * 1000 + i) with
      | some (_, ci, k, _) => match μ.1[a]? with
        | some (cj, _) => if cj = ci then xnx (pc + 3) loc (xget ci k a μ :: r) μ else none
        | none => none
      | none => none
    | _ => none
  | .putfield i => match st with
    | v :: .ref a :: r => match xFT.lookup (c * 1000 + i) with
      | some (nest, ci, k, _) => match μ.1[a]? with
        | some (cj, _) => if cj = ci then (match xput (decide ((xm mid).2.1.name = "<init>") && decide (ci = xci c) && !nest) ci k a v μ with
          | some μ' => xnx (pc + 3) loc r μ'
          | none => none) else none
        | none => none
      | none => none
    | _ => none
  | .getstatic i => match xST.lookup (c * 1000 + i) with
    | some _ => xnx (pc + 3) loc (.ref 1 :: st) μ
    | none => none
  | .new i => match xCT.lookup (c * 1000 + i) with
    | some (ci, _) => xnx (pc + 3) loc (.ref μ.1.length :: st) (xmake (ci, (xFy.getD ci []).length) μ)
    | none => none
  | .newarray ty => match st with
    | .int n :: r => if n < 0 ∨ 100000 < n.toNatClampNeg then none else match ty with
      | .int => xnx (pc + 2) loc (.ref μ.1.length :: r) (xmake (100, n.toNatClampNeg) μ)
      | .long => xnx (pc + 2) loc (.ref μ.1.length :: r) (xmake (101, n.toNatClampNeg) μ)
      | .boolean => xnx (pc + 2) loc (.ref μ.1.length :: r) (xmake (102, n.toNatClampNeg) μ)
      | _ => none
    | _ => none
  | .anewarray i => match st with
    | .int n :: r => if n < 0 ∨ 100000 < n.toNatClampNeg then none else match xCT.lookup (c * 1000 + i) with
      | some (8, _) => xnx (pc + 3) loc (.ref μ.1.length :: r) (xmake (103, n.toNatClampNeg) μ)
      | some (4, _) => xnx (pc + 3) loc (.ref μ.1.length :: r) (xmake (104, n.toNatClampNeg) μ)
      | _ => none
    | _ => none
  | .arraylength => match st with
    | .ref a :: r => match μ.1[a]? with
      | some (kd, n) => if 100 ≤ kd ∧ kd ≤ 105 then xnx (pc + 1) loc (.int (Int32.ofNat n) :: r) μ else none
      | none => none
    | _ => none
  | .iaload => match st with
    | .int i :: .ref a :: r => match μ.1[a]? with
      | some (kd, n) => if (kd = 100 ∨ kd = 105) ∧ xin i n = true then xnx (pc + 1) loc (.int (μ.2.1 a i.toNatClampNeg) :: r) μ else none
      | none => none
    | _ => none
  | .laload => match st with
    | .int i :: .ref a :: r => match μ.1[a]? with
      | some (kd, n) => if kd = 101 ∧ xin i n = true then xnx (pc + 1) loc (.long (μ.2.2.1 a i.toNatClampNeg) :: r) μ else none
      | none => none
    | _ => none
  | .baload => match st with
    | .int i :: .ref a :: r => match μ.1[a]? with
      | some (kd, n) => if kd = 102 ∧ xin i n = true then xnx (pc + 1) loc (.int (μ.2.1 a i.toNatClampNeg) :: r) μ else none
      | none => none
    | _ => none
  | .aaload => match st with
    | .int i :: .ref a :: r => match μ.1[a]? with
      | some (kd, n) => if (kd = 103 ∨ kd = 104) ∧ xin i n = true then xnx (pc + 1) loc (va_rf (μ.2.2.2 a i.toNatClampNeg) :: r) μ else none
      | none => none
    | _ => none
  | .iastore => match st with
    | .int x :: .int i :: .ref a :: r => match μ.1[a]? with
      | some (kd, n) => if kd = 100 ∧ xin i n = true then xnx (pc + 1) loc r (μ.1, xw μ.2.1 a i.toNatClampNeg x, μ.2.2.1, μ.2.2.2) else none
      | none => none
    | _ => none
  | .lastore => match st with
    | .long x :: .int i :: .ref a :: r => match μ.1[a]? with
      | some (kd, n) => if kd = 101 ∧ xin i n = true then xnx (pc + 1) loc r (μ.1, μ.2.1, xw μ.2.2.1 a i.toNatClampNeg x, μ.2.2.2) else none
      | none => none
    | _ => none
  | .bastore => match st with
    | .int x :: .int i :: .ref a :: r => match μ.1[a]? with
      | some (kd, n) => if kd = 102 ∧ xin i n = true ∧ (x = 0 ∨ x = 1) then xnx (pc + 1) loc r (μ.1, xw μ.2.1 a i.toNatClampNeg x, μ.2.2.1, μ.2.2.2) else none
      | none => none
    | _ => none
  | .aastore => match st with
    | .ref v :: .int i :: .ref a :: r => match μ.1[a]?, μ.1[v]? with
      | some (kd, n), some (ci, _) => if (kd = 103 ∧ ci = 8 ∨ kd = 104 ∧ ci = 4) ∧ xin i n = true then xnx (pc + 1) loc r (μ.1, μ.2.1, μ.2.2.1, xw μ.2.2.2 a i.toNatClampNeg (some v)) else none
      | _, _ => none
    | _ => none
  | _ => none
/-- calls and ends -/
def xcalls (mid c : Nat) (ins : Instr) (pc : Nat) (loc st : List Value) (μ : xM) : Option xR1 := match ins with
  | .invokevirtual i => match xIT.lookup (c * 1000 + i) with
    | some (kd, f, _) => if kd ≤ 1 then xinv kd f pc loc st μ else none
    | none => none
  | .invokestatic i => match xIT.lookup (c * 1000 + i) with
    | some (kd, f, _) => if kd = 7 then xarc pc loc st μ else if kd = 8 then (match st with
      | .int y :: .int x :: r => if xcat r then xnx (pc + 3) loc (.int (if x < y then y else x) :: r) μ else none
      | _ => none) else if kd = 9 then (match st with
      | .int y :: .int x :: r => if xcat r then xnx (pc + 3) loc (.int (if y < x then y else x) :: r) μ else none
      | _ => none) else if kd = 2 ∨ kd = 3 then xinv kd f pc loc st μ else none
    | none => none
  | .invokespecial i => match xIT.lookup (c * 1000 + i) with
    | some (kd, f, _) => if kd = 6 then (match st with
      | .ref _ :: r => if xcat r then xnx (pc + 3) loc r μ else none
      | _ => none) else if kd = 4 ∨ kd = 5 then xinv kd f pc loc st μ else none
    | none => none
  | .ireturn => match st, (xm mid).2.2.2.2.1 with
    | [.int x], some .int => some (.inr (.inl (some (.int x))))
    | [.int x], some .boolean => if x = 0 ∨ x = 1 then some (.inr (.inl (some (.int x)))) else none
    | _, _ => none
  | .lreturn => match st, (xm mid).2.2.2.2.1 with
    | [.long x], some .long => some (.inr (.inl (some (.long x))))
    | _, _ => none
  | .areturn => match st, (xm mid).2.2.2.2.1 with
    | [.ref x], some (.object _) => some (.inr (.inl (some (.ref x))))
    | [.null], some (.object _) => some (.inr (.inl (some .null)))
    | _, _ => none
  | .return_ => match st, (xm mid).2.2.2.2.1 with
    | [], none => some (.inr (.inl none))
    | _, _ => none
  | _ => none
def xins (mid : Nat) (ins : Instr) (pc len : Nat) (loc st : List Value) (μ : xM) : Option xR1 :=
  match xpure (xm mid).1 ins loc st with
  | some (loc', st') => xnx (pc + len) loc' st' μ
  | none => match xjump ins pc loc st μ with
    | some r => some r
    | none => match xheap mid (xm mid).1 ins pc loc st μ with
      | some r => some r
      | none => xcalls mid (xm mid).1 ins pc loc st μ
def xstep (mid pc : Nat) (loc st : List Value) (μ : xM) : Option xR1 := match (xC mid).lookup pc with
  | some (ins, len) => xins mid ins pc len loc st μ
  | none => none
def xent (f : Nat) (as : List Value) : List Value := xsl as ++ List.replicate ((xm f).2.2.2.1 - (xsl as).length) xmk
def xrun : Nat → Nat → Nat → Nat → List Value → List Value → xM → Option (Option Value × xM)
  | 0, _, _, _, _, _, _ => none
  | n + 1, d, mid, pc, loc, st, μ => match xstep mid pc loc st μ with
    | none => none
    | some (.inl (pc', loc', st', μ')) => xrun n d mid pc' loc' st' μ'
    | some (.inr (.inl v)) => some (v, μ)
    | some (.inr (.inr (f, as, rest))) => match d with
      | 0 => none
      | d' + 1 => match xrun n d' f 0 (xent f as) [] μ with
        | none => none
        | some (v, μ') => xrun n (d' + 1) mid (pc + 3) loc (v.toList ++ rest) μ'
theorem xrun_mono : ∀ (n k d mid pc : Nat) (loc st : List Value) (μ : xM) (r : Option Value × xM), xrun n d mid pc loc st μ = some r → xrun (n + k) d mid pc loc st μ = some r := by
  intro n
  induction n with
  | zero => intro k d mid pc loc st μ r h; simp [xrun] at h
  | succ n ih =>
    intro k d mid pc loc st μ r h
    rw [show n + 1 + k = (n + k) + 1 by omega]
    simp only [xrun] at h ⊢
    cases e : xstep mid pc loc st μ with
    | none => rw [e] at h; cases h
    | some q =>
      rw [e] at h
      rcases q with ⟨pc', loc', st', μ'⟩ | v | ⟨f, as, rest⟩
      · exact ih k _ _ _ _ _ _ _ h
      · exact h
      · cases d with
        | zero => cases h
        | succ d' =>
          simp only at h ⊢
          cases h1 : xrun n d' f 0 (xent f as) [] μ with
          | none => rw [h1] at h; cases h
          | some q =>
            rw [h1] at h
            rw [ih k _ _ _ _ _ _ _ h1]
            exact ih k _ _ _ _ _ _ _ h
def X (mid pc : Nat) (loc st : List Value) (μ : xM) (d : Nat) (Q : Option Value → xM → Prop) : Prop := ∃ n v μ', xrun n d mid pc loc st μ = some (v, μ') ∧ Q v μ'
def Xm (f : Nat) (as : List Value) (μ : xM) (d : Nat) (Q : Option Value → xM → Prop) : Prop := X f 0 (xent f as) [] μ d Q
theorem X_next {mid pc d pc' : Nat} {loc st loc' st' : List Value} {μ μ' : xM} {Q : Option Value → xM → Prop} (h : xstep mid pc loc st μ = some (.inl (pc', loc', st', μ'))) : X mid pc loc st μ d Q = X mid pc' loc' st' μ' d Q := by
  apply propext
  constructor
  · rintro ⟨n, v, μ2, h1, h2⟩
    cases n with
    | zero => simp [xrun] at h1
    | succ n => simp only [xrun, h] at h1; exact ⟨n, v, μ2, h1, h2⟩
  · rintro ⟨n, v, μ2, h1, h2⟩
    exact ⟨n + 1, v, μ2, by simp only [xrun, h]; exact h1, h2⟩
theorem X_ret {mid pc d : Nat} {loc st : List Value} {μ : xM} {v : Option Value} {Q : Option Value → xM → Prop} (h : xstep mid pc loc st μ = some (.inr (.inl v))) : X mid pc loc st μ d Q = Q v μ := by
  apply propext
  constructor
  · rintro ⟨n, v, μ2, h1, h2⟩
    cases n with
    | zero => simp [xrun] at h1
    | succ n => simp only [xrun, h] at h1; cases h1; exact h2
  · intro h2
    exact ⟨1, v, μ, by simp only [xrun, h], h2⟩
theorem X_call {mid pc d f : Nat} {loc st as rest : List Value} {μ : xM} {Q : Option Value → xM → Prop} (h : xstep mid pc loc st μ = some (.inr (.inr (f, as, rest)))) : X mid pc loc st μ (d + 1) Q = Xm f as μ d (fun v μ' => X mid (pc + 3) loc (v.toList ++ rest) μ' (d + 1) Q) := by
  apply propext
  constructor
  · rintro ⟨n, v, μ2, h1, h2⟩
    cases n with
    | zero => simp [xrun] at h1
    | succ n =>
      simp only [xrun, h] at h1
      cases h3 : xrun n d f 0 (xent f as) [] μ with
      | none => rw [h3] at h1; cases h1
      | some q =>
        rw [h3] at h1
        exact ⟨n, q.1, q.2, h3, n, v, μ2, h1, h2⟩
  · rintro ⟨n, v, μ2, h1, n2, v2, μ3, h2, h3⟩
    refine ⟨n + n2 + 1, v2, μ3, ?_, h3⟩
    simp only [xrun, h]
    rw [xrun_mono n n2 _ _ _ _ _ _ _ h1]
    rw [show n + n2 = n2 + n by omega]
    exact xrun_mono n2 n _ _ _ _ _ _ _ h2
