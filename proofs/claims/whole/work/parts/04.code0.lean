/-! the small machine's tables against the Statement's words -/
/-- how long an instruction is -/
def xlen : Instr → Nat
  | .iload _ => 2 | .aload _ => 2 | .lload _ => 2 | .istore _ => 2 | .astore _ => 2 | .lstore _ => 2 | .bipush _ => 2 | .ldc _ => 2 | .newarray _ => 2
  | .sipush _ => 3 | .ldc_w _ => 3 | .ldc2_w _ => 3 | .iinc _ _ => 3 | .goto _ => 3 | .ifCond _ _ => 3 | .if_icmp _ _ => 3 | .ifnull _ => 3 | .ifnonnull _ => 3
  | .getfield _ => 3 | .putfield _ => 3 | .getstatic _ => 3 | .new _ => 3 | .anewarray _ => 3 | .invokevirtual _ => 3 | .invokestatic _ => 3 | .invokespecial _ => 3
  | _ => 1
def xswitch : Instr → Bool
  | .tableswitch _ _ _ _ => true
  | _ => false
def xcok (c : ByteArray) (l : List (Nat × Instr × Nat)) : Bool := l.all fun e => decide (decode c e.1 = .ok (e.2.1, e.2.2)) && (decide (e.2.2 = xlen e.2.1) || xswitch e.2.1)
theorem xc_cut {c : ByteArray} {l : List (Nat × Instr × Nat)} (n : Nat) (h1 : xcok c (l.take n) = true) (h2 : xcok c (l.drop n) = true) : xcok c l = true := by
  unfold xcok at *
  rw [← List.take_append_drop n l, List.all_append, h1, h2]
  rfl
