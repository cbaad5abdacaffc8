/-! what the tables say of each instruction, entry and method, checked once by evaluation -/
def ax_okl : Instr → Nat → Bool
  | .aload_n _, n => n == 1 | .aload _, n => n == 2 | .iload_n _, n => n == 1 | .iload _, n => n == 2 | .lload_n _, n => n == 1 | .lload _, n => n == 2
  | .fload_n _, n => n == 1 | .dload_n _, n => n == 1 | .dload _, n => n == 2 | .istore_n _, n => n == 1 | .istore _, n => n == 2 | .astore_n _, n => n == 1 | .astore _, n => n == 2
  | .fstore_n _, n => n == 1 | .lstore_n _, n => n == 1 | .lstore _, n => n == 2 | .dstore_n _, n => n == 1 | .dstore _, n => n == 2 | .iinc _ _, n => n == 3
  | .iconst _, n => n == 1 | .bipush _, n => n == 2 | .sipush _, n => n == 3 | .lconst _, n => n == 1 | .fconst _, n => n == 1 | .dconst _, n => n == 1
  | .ldc _, n => n == 2 | .ldc_w _, n => n == 3 | .ldc2_w _, n => n == 3 | .goto _, n => n == 3 | .if_icmp _ _, n => n == 3 | .ifCond _ _, n => n == 3
  | .tableswitch _ _ _ _, _ => true | .lookupswitch _ _, _ => true | .getfield _, n => n == 3 | .putfield _, n => n == 3 | .new _, n => n == 3 | .newarray _, n => n == 2 | .anewarray _, n => n == 3
  | .invokevirtual _, n => n == 3 | .invokestatic _, n => n == 3 | .invokespecial _, n => n == 3
  | _, n => n == 1
def ax_chk (mi : Nat) : Bool := (List.range (ax_len mi)).all fun pc => match ax_raw mi pc with | none => true | some i => (match decode (ax_code mi) pc with | .ok (j, n) => decide (j = i) && ax_okl i n | .error _ => false)
set_option maxRecDepth 100000 in
theorem ax_chk0 : (List.range 60).all ax_chk = true := by decide +kernel
set_option maxRecDepth 100000 in
theorem ax_chk1 : (List.range 58).all (fun k => ax_chk (60 + k)) = true := by decide +kernel
theorem ax_allr {n : Nat} {f : Nat → Bool} (h : (List.range n).all f = true) {k : Nat} (hk : k < n) : f k = true := List.all_eq_true.mp h k (List.mem_range.mpr hk)
