/-! THE ABSTRACT MACHINE: a pure function that carries out the bytecode of the claim's classes over an abstract heap (cells by number, references are numbers of cells); 08 and on: what it does the machine does. -/
/-- a cell: an array (kind: 0 of int, 1 of long, 2 of State; then the kit's array, references by number), or an object (class, fields) -/
abbrev ax_C : Type := (Nat × vp_A) ⊕ (Nat × List Value)
/-- a heap: how many cells; cells and slots made so far, exceptions counted; the cells -/
abbrev ax_H : Type := (Nat × Nat × Nat) × (Nat → ax_C)
abbrev ax_L : Type := List (Option Value)
abbrev ax_F : Type := Nat × ax_L × List Value
/-- an end: an answer, or an exception by its number -/
abbrev ax_O : Type := Option Value ⊕ Nat
/-- a step leads to a further state, to an end, or to a call (method, arguments, the frame that goes on) -/
abbrev ax_S : Type := (ax_F × ax_H) ⊕ ((ax_O × ax_H) ⊕ (Nat × List Value × ax_F))
def ax_ld : ax_L → Nat → Option Value
  | [], _ => none
  | x :: _, 0 => x
  | _ :: L, i + 1 => ax_ld L i
def ax_set : ax_L → Nat → Option Value → ax_L
  | [], _, _ => []
  | _ :: L, 0, v => v :: L
  | x :: L, i + 1, v => x :: ax_set L i v
def ax_has : ax_L → Nat → Bool
  | [], _ => false
  | _ :: _, 0 => true
  | _ :: L, i + 1 => ax_has L i
def ax_wide : Option Value → Bool
  | some (.long _) => true
  | some (.double _) => true
  | _ => false
def ax_kill (L : ax_L) : Nat → ax_L
  | 0 => L
  | j + 1 => bif ax_wide (ax_ld L j) then ax_set L j none else L
def ax_nth : List Value → Nat → Option Value
  | [], _ => none
  | v :: _, 0 => some v
  | _ :: l, i + 1 => ax_nth l i
def ax_nx (pc : Nat) (L : ax_L) (S : List Value) (h : ax_H) : Option ax_S := some (.inl ((pc, L, S), h))
def ax_s1 (pc : Nat) (L : ax_L) (i : Nat) (v : Value) (S : List Value) (h : ax_H) : Option ax_S :=
  bif ax_has L i then ax_nx pc (ax_set (ax_kill L i) i (some v)) S h else none
def ax_s2 (pc : Nat) (L : ax_L) (i : Nat) (v : Value) (S : List Value) (h : ax_H) : Option ax_S :=
  bif ax_has L (i + 1) then ax_nx pc (ax_set (ax_set (ax_kill L i) i (some v)) (i + 1) none) S h else none
def ax_jmp (pc : Nat) : Int → Option Nat
  | .ofNat k => some (pc + k)
  | .negSucc k => bif Nat.ble (k + 1) pc then some (pc - (k + 1)) else none
def ax_if (cnd : ClassFile.Cond) (x y : Int32) (pc : Nat) (off : Int) (L : ax_L) (S : List Value) (h : ax_H) : Option ax_S :=
  match ax_jmp pc off with
  | none => none
  | some t => match cnd with
    | .eq => bif decide (x = y) then ax_nx t L S h else ax_nx (pc + 3) L S h
    | .ne => bif decide (x = y) then ax_nx (pc + 3) L S h else ax_nx t L S h
    | .lt => bif decide (x < y) then ax_nx t L S h else ax_nx (pc + 3) L S h
    | .ge => bif decide (y ≤ x) then ax_nx t L S h else ax_nx (pc + 3) L S h
    | .gt => bif decide (y < x) then ax_nx t L S h else ax_nx (pc + 3) L S h
    | .le => bif decide (x ≤ y) then ax_nx t L S h else ax_nx (pc + 3) L S h
def ax_at (h : ax_H) (a : Nat) : Option ax_C := bif Nat.blt a h.1.1 then some (h.2 a) else none
def ax_up (h : ax_H) (a : Nat) (c : ax_C) : ax_H := (h.1, fun j => bif Nat.beq j a then c else h.2 j)
def ax_push (h : ax_H) (c : ax_C) (k : Nat) : ax_H := ((h.1.1 + 1, h.1.2.1 + 1, h.1.2.2 + k), fun j => bif Nat.beq j h.1.1 then c else h.2 j)
/-- no reference beyond the cells that there are -/
def ax_clV (n : Nat) : Value → Bool
  | .ref i => Nat.blt i n
  | _ => true
def ax_clO (n : Nat) : Option Value → Bool
  | some v => ax_clV n v
  | none => true
def ax_clC (n : Nat) : ax_C → Bool
  | .inr (_, fs) => fs.all (ax_clV n)
  | .inl (_, (len, .inr (.inr (.inr (.inr f))))) => (List.range len).all (fun k => match f k with | some i => Nat.blt i n | none => true)
  | _ => true
def ax_clF (n : Nat) (L : ax_L) (S : List Value) : Bool := L.all (ax_clO n) && S.all (ax_clV n)
def ax_clB (h : ax_H) (L : ax_L) (S : List Value) : Bool := (List.range h.1.1).all (fun i => ax_clC h.1.1 (h.2 i)) && ax_clF h.1.1 L S
def ax_inb (i : Int32) (n : Nat) : Bool := decide (0 ≤ i) && Nat.blt i.toNatClampNeg n
def ax_fit : FieldType → Value → Bool
  | .int, .int _ => true
  | .long, .long _ => true
  | .float, .float _ => true
  | .double, .double _ => true
  | .boolean, .int x => decide (x = 0) || decide (x = 1)
  | .object _, .ref _ => true
  | .array _, .ref _ => true
  | _, _ => false
def ax_n32 (r : UInt32) : Bool := decide (r &&& 0x7fffffff ≤ 0x7f800000)
def ax_n64 (r : UInt64) : Bool := decide (r &&& 0x7fffffffffffffff ≤ 0x7ff0000000000000)
def ax_take : Nat → List Value → List Value → Option (List Value × List Value)
  | 0, S, acc => some (acc, S)
  | _ + 1, [], _ => none
  | n + 1, v :: S, acc => ax_take n S (v :: acc)
def ax_fl : List Value → ax_L
  | [] => []
  | v :: vs => bif ax_wide (some v) then some v :: none :: ax_fl vs else some v :: ax_fl vs
def ax_pad (L : ax_L) (n : Nat) : ax_L := L ++ List.replicate (n - L.length) none
def ax_ent (m : Nat) (args : List Value) : ax_L := ax_pad (ax_fl args) (ax_maxL m)
/-- the receiver of a call: an object of the method's class, where that is asked -/
def ax_rc (h : ax_H) (k m : Nat) : List Value → Bool
  | .ref a :: _ => bif Nat.beq k 0 || Nat.beq k 5 then (match ax_at h a with | some (.inr (ci, _)) => Nat.beq ci (ax_own m) | _ => false) else true
  | _ => Nat.beq k 1 || Nat.beq k 3 || Nat.beq k 8
def ax_cpy (L : ax_L) (pc : Nat) (h : ax_H) : List Value → Option ax_S
  | .int n :: .int dp :: .ref b :: .int sp :: .ref a :: S =>
    match ax_at h a, ax_at h b with
    | some (.inl (0, (n0, .inl f))), some (.inl (0, (n1, .inl g))) =>
      bif decide (0 ≤ sp) && decide (0 ≤ dp) && decide (0 ≤ n) && Nat.ble (sp.toNatClampNeg + n.toNatClampNeg) n0 && Nat.ble (dp.toNatClampNeg + n.toNatClampNeg) n1 && Nat.ble (S.map fun v => v.category).sum 8
      then ax_nx (pc + 3) L S (ax_up h b (.inl (0, (n1, .inl (va_cpy f g sp.toNatClampNeg dp.toNatClampNeg n.toNatClampNeg))))) else none
    | some (.inl (1, (n0, .inr (.inl f)))), some (.inl (1, (n1, .inr (.inl g)))) =>
      bif decide (0 ≤ sp) && decide (0 ≤ dp) && decide (0 ≤ n) && Nat.ble (sp.toNatClampNeg + n.toNatClampNeg) n0 && Nat.ble (dp.toNatClampNeg + n.toNatClampNeg) n1 && Nat.ble (S.map fun v => v.category).sum 8
      then ax_nx (pc + 3) L S (ax_up h b (.inl (1, (n1, .inr (.inl (va_cpy f g sp.toNatClampNeg dp.toNatClampNeg n.toNatClampNeg)))))) else none
    | _, _ => none
  | _ => none
/-- op: 0 virtual, 1 static, 2 special -/
def ax_call (mi pc : Nat) (L : ax_L) (S : List Value) (h : ax_H) (op ix : Nat) : Option ax_S :=
  match ax_inv (ax_own mi) ix with
  | none => none
  | some (k, m, _) =>
    bif Nat.beq k 6 then (bif Nat.beq op 2 then (match S with | .ref _ :: S => bif Nat.ble (S.map fun v => v.category).sum 8 then ax_nx (pc + 3) L S h else none | _ => none) else none)
    else bif Nat.beq k 7 then (bif Nat.beq op 1 then ax_cpy L pc h S else none)
    else bif (Nat.beq op 0 && (Nat.beq k 0 || Nat.beq k 5)) || (Nat.beq op 1 && (Nat.beq k 1 || Nat.beq k 3 || Nat.beq k 8)) || (Nat.beq op 2 && (Nat.beq k 2 || Nat.beq k 4)) then
      match ax_take (ax_na m) S [] with
      | none => none
      | some (args, rest) => bif ax_rc h k m args && Nat.ble (rest.map fun v => v.category).sum 8 then some (.inr (.inr (m, args, (pc + 3, L, rest)))) else none
    else none
def ax_ret1 (mi : Nat) (v : Value) (h : ax_H) : Option ax_S :=
  match ax_ret mi with
  | none => none
  | some ty => bif ax_fit ty v then some (.inr (.inl (.inl (some v), h))) else none
def ax_fin (ci k : Nat) : Bool := ((ax_cr ci).2.1 k).2.2.2
def ax_do (X : Nat × (Nat → Int32)) (mi pc : Nat) (L : ax_L) (S : List Value) (h : ax_H) : Instr → Option ax_S
  | .aload_n k => match ax_ld L k.val with | some (.ref a) => ax_nx (pc + 1) L (.ref a :: S) h | some (.retAddr a) => ax_nx (pc + 1) L (.retAddr a :: S) h | _ => none
  | .aload k => match ax_ld L k with | some (.ref a) => ax_nx (pc + 2) L (.ref a :: S) h | some (.retAddr a) => ax_nx (pc + 2) L (.retAddr a :: S) h | _ => none
  | .iload_n k => match ax_ld L k.val with | some (.int x) => ax_nx (pc + 1) L (.int x :: S) h | _ => none
  | .iload k => match ax_ld L k with | some (.int x) => ax_nx (pc + 2) L (.int x :: S) h | _ => none
  | .lload_n k => match ax_ld L k.val with | some (.long x) => ax_nx (pc + 1) L (.long x :: S) h | _ => none
  | .lload k => match ax_ld L k with | some (.long x) => ax_nx (pc + 2) L (.long x :: S) h | _ => none
  | .fload_n k => match ax_ld L k.val with | some (.float x) => ax_nx (pc + 1) L (.float x :: S) h | _ => none
  | .dload_n k => match ax_ld L k.val with | some (.double x) => ax_nx (pc + 1) L (.double x :: S) h | _ => none
  | .dload k => match ax_ld L k with | some (.double x) => ax_nx (pc + 2) L (.double x :: S) h | _ => none
  | .istore_n k => match S with | .int x :: S => ax_s1 (pc + 1) L k.val (.int x) S h | _ => none
  | .istore k => match S with | .int x :: S => ax_s1 (pc + 2) L k (.int x) S h | _ => none
  | .astore_n k => match S with | .ref x :: S => ax_s1 (pc + 1) L k.val (.ref x) S h | _ => none
  | .astore k => match S with | .ref x :: S => ax_s1 (pc + 2) L k (.ref x) S h | _ => none
  | .fstore_n k => match S with | .float x :: S => ax_s1 (pc + 1) L k.val (.float x) S h | _ => none
  | .lstore_n k => match S with | .long x :: S => ax_s2 (pc + 1) L k.val (.long x) S h | _ => none
  | .lstore k => match S with | .long x :: S => ax_s2 (pc + 2) L k (.long x) S h | _ => none
  | .dstore_n k => match S with | .double x :: S => ax_s2 (pc + 1) L k.val (.double x) S h | _ => none
  | .dstore k => match S with | .double x :: S => ax_s2 (pc + 2) L k (.double x) S h | _ => none
  | .iinc k n => match ax_ld L k with | some (.int x) => ax_s1 (pc + 3) L k (.int (x + Int32.ofInt n)) S h | _ => none
  | .iconst n => ax_nx (pc + 1) L (.int (Int32.ofInt n) :: S) h
  | .bipush n => ax_nx (pc + 2) L (.int (Int8.ofInt n).toInt32 :: S) h
  | .sipush n => ax_nx (pc + 3) L (.int (Int16.ofInt n).toInt32 :: S) h
  | .lconst n => ax_nx (pc + 1) L (.long (Int64.ofNat n.val) :: S) h
  | .fconst n => match n with | 0 => ax_nx (pc + 1) L (.float FP.fconst0 :: S) h | 1 => ax_nx (pc + 1) L (.float FP.fconst1 :: S) h | 2 => ax_nx (pc + 1) L (.float FP.fconst2 :: S) h
  | .dconst n => match n with | 0 => ax_nx (pc + 1) L (.double FP.dconst0 :: S) h | 1 => ax_nx (pc + 1) L (.double FP.dconst1 :: S) h
  | .ldc ix => match ax_num (ax_own mi) ix with | some (.int v, _) => ax_nx (pc + 2) L (.int v :: S) h | some (.float v, _) => ax_nx (pc + 2) L (.float v :: S) h | _ => none
  | .ldc_w ix => match ax_num (ax_own mi) ix with | some (.int v, _) => ax_nx (pc + 3) L (.int v :: S) h | some (.float v, _) => ax_nx (pc + 3) L (.float v :: S) h | _ => none
  | .ldc2_w ix => match ax_num (ax_own mi) ix with | some (.long v, _) => ax_nx (pc + 3) L (.long v :: S) h | some (.double v, _) => ax_nx (pc + 3) L (.double v :: S) h | _ => none
  | .iadd => match S with | .int y :: .int x :: S => ax_nx (pc + 1) L (.int (x + y) :: S) h | _ => none
  | .isub => match S with | .int y :: .int x :: S => ax_nx (pc + 1) L (.int (x - y) :: S) h | _ => none
  | .imul => match S with | .int y :: .int x :: S => ax_nx (pc + 1) L (.int (x * y) :: S) h | _ => none
  | .idiv => match S with | .int y :: .int x :: S => bif decide (y = 0) then none else ax_nx (pc + 1) L (.int (x / y) :: S) h | _ => none
  | .irem => match S with | .int y :: .int x :: S => bif decide (y = 0) then none else ax_nx (pc + 1) L (.int (x - x / y * y) :: S) h | _ => none
  | .iand => match S with | .int y :: .int x :: S => ax_nx (pc + 1) L (.int (x &&& y) :: S) h | _ => none
  | .ior => match S with | .int y :: .int x :: S => ax_nx (pc + 1) L (.int (x ||| y) :: S) h | _ => none
  | .ixor => match S with | .int y :: .int x :: S => ax_nx (pc + 1) L (.int (x ^^^ y) :: S) h | _ => none
  | .ishl => match S with | .int y :: .int x :: S => ax_nx (pc + 1) L (.int (x <<< (y &&& 31)) :: S) h | _ => none
  | .ishr => match S with | .int y :: .int x :: S => ax_nx (pc + 1) L (.int (x >>> (y &&& 31)) :: S) h | _ => none
  | .ladd => match S with | .long y :: .long x :: S => ax_nx (pc + 1) L (.long (x + y) :: S) h | _ => none
  | .lmul => match S with | .long y :: .long x :: S => ax_nx (pc + 1) L (.long (x * y) :: S) h | _ => none
  | .lor => match S with | .long y :: .long x :: S => ax_nx (pc + 1) L (.long (x ||| y) :: S) h | _ => none
  | .lshl => match S with | .int y :: .long x :: S => ax_nx (pc + 1) L (.long (x <<< (y.toInt64 &&& 63)) :: S) h | _ => none
  | .lcmp => match S with | .long y :: .long x :: S => ax_nx (pc + 1) L (.int (lg_cmp x y) :: S) h | _ => none
  | .i2l => match S with | .int x :: S => ax_nx (pc + 1) L (.long x.toInt64 :: S) h | _ => none
  | .i2f => match S with | .int x :: S => ax_nx (pc + 1) L (.float (FP.i2f x) :: S) h | _ => none
  | .i2d => match S with | .int x :: S => ax_nx (pc + 1) L (.double (FP.i2d x) :: S) h | _ => none
  | .l2d => match S with | .long x :: S => ax_nx (pc + 1) L (.double (FP.l2d x) :: S) h | _ => none
  | .f2i => match S with | .float x :: S => ax_nx (pc + 1) L (.int (FP.f2i x) :: S) h | _ => none
  | .d2l => match S with | .double x :: S => ax_nx (pc + 1) L (.long (FP.d2l x) :: S) h | _ => none
  | .f2d => match S with | .float x :: S => bif ax_n64 (FP.f2d x) then ax_nx (pc + 1) L (.double (FP.f2d x) :: S) h else none | _ => none
  | .fmul => match S with | .float y :: .float x :: S => bif ax_n32 (FP.fmul x y) then ax_nx (pc + 1) L (.float (FP.fmul x y) :: S) h else none | _ => none
  | .fsub => match S with | .float y :: .float x :: S => bif ax_n32 (FP.fsub x y) then ax_nx (pc + 1) L (.float (FP.fsub x y) :: S) h else none | _ => none
  | .fdiv => match S with | .float y :: .float x :: S => bif ax_n32 (FP.fdiv x y) then ax_nx (pc + 1) L (.float (FP.fdiv x y) :: S) h else none | _ => none
  | .dmul => match S with | .double y :: .double x :: S => bif ax_n64 (FP.dmul x y) then ax_nx (pc + 1) L (.double (FP.dmul x y) :: S) h else none | _ => none
  | .dsub => match S with | .double y :: .double x :: S => bif ax_n64 (FP.dsub x y) then ax_nx (pc + 1) L (.double (FP.dsub x y) :: S) h else none | _ => none
  | .ddiv => match S with | .double y :: .double x :: S => bif ax_n64 (FP.ddiv x y) then ax_nx (pc + 1) L (.double (FP.ddiv x y) :: S) h else none | _ => none
  | .fcmp op => match S with | .float y :: .float x :: S => ax_nx (pc + 1) L (.int (Op.cmpValue (FP.fcmp x y) op) :: S) h | _ => none
  | .dcmp op => match S with | .double y :: .double x :: S => ax_nx (pc + 1) L (.int (Op.cmpValue (FP.dcmp x y) op) :: S) h | _ => none
  | .dup => match S with | v :: S => bif ax_wide (some v) then none else ax_nx (pc + 1) L (v :: v :: S) h | _ => none
  | .dup2 => match S with | v :: w :: S => bif ax_wide (some v) || ax_wide (some w) then none else ax_nx (pc + 1) L (v :: w :: v :: w :: S) h | _ => none
  | .pop => match S with | v :: S => bif ax_wide (some v) then none else ax_nx (pc + 1) L S h | _ => none
  | .goto off => match ax_jmp pc off with | some t => ax_nx t L S h | none => none
  | .if_icmp cnd off => match S with | .int y :: .int x :: S => ax_if cnd x y pc off L S h | _ => none
  | .ifCond cnd off => match S with | .int x :: S => ax_if cnd x 0 pc off L S h | _ => none
  | .tableswitch dflt lo hi offs => match S with
    | .int x :: S => bif decide (x.toInt < lo) || decide (hi < x.toInt) then (match ax_jmp pc dflt with | some t => ax_nx t L S h | none => none)
      else (match offs[(x.toInt - lo).toNat]? with | some off => (match ax_jmp pc off with | some t => ax_nx t L S h | none => none) | none => none)
    | _ => none
  | .lookupswitch dflt ps => match S with
    | .int x :: S => bif (ps.toList.zip (ps.toList.drop 1)).all (fun (a, next) => a.1 < next.1) then (match ax_jmp pc (Op.lookupswitch.offset ps.toList dflt x.toInt) with | some t => ax_nx t L S h | none => none) else none
    | _ => none
  | .getfield ix => match S with
    | .ref a :: S => match ax_fld (ax_own mi) ix with
      | some (ci, k, _) => match ax_at h a with
        | some (.inr (ci', fs)) => bif Nat.beq ci ci' then (match ax_nth fs k with | some v => ax_nx (pc + 3) L (v :: S) h | none => none) else none
        | _ => none
      | none => none
    | _ => none
  | .putfield ix => match S with
    | v :: .ref a :: S => match ax_fld (ax_own mi) ix with
      | some (ci, k, _) => match ax_at h a with
        | some (.inr (ci', fs)) => bif Nat.beq ci ci' && Nat.blt k fs.length && (!(ax_fin ci k) || (ax_isInit mi && Nat.beq ci (ax_own mi))) && ax_fit (ax_ty ci k) v then ax_nx (pc + 3) L S (ax_up h a (.inr (ci', fs.set k v))) else none
        | _ => none
      | none => none
    | _ => none
  | .iaload => match S with
    | .int i :: .ref a :: S => match ax_at h a with
      | some (.inl (0, (n, .inl f))) => bif ax_inb i n then ax_nx (pc + 1) L (.int (f i.toNatClampNeg) :: S) h else none
      | _ => none
    | .int i :: .retAddr _ :: S => bif ax_inb i X.1 then ax_nx (pc + 1) L (.int (X.2 i.toNatClampNeg) :: S) h else none
    | _ => none
  | .laload => match S with
    | .int i :: .ref a :: S => match ax_at h a with
      | some (.inl (1, (n, .inr (.inl f)))) => bif ax_inb i n then ax_nx (pc + 1) L (.long (f i.toNatClampNeg) :: S) h else none
      | _ => none
    | _ => none
  | .aaload => match S with
    | .int i :: .ref a :: S => match ax_at h a with
      | some (.inl (2, (n, .inr (.inr (.inr (.inr f)))))) => bif ax_inb i n then (match f i.toNatClampNeg with | some r => ax_nx (pc + 1) L (.ref r :: S) h | none => none) else none
      | _ => none
    | _ => none
  | .iastore => match S with
    | .int x :: .int i :: .ref a :: S => match ax_at h a with
      | some (.inl (0, (n, .inl f))) => bif ax_inb i n then ax_nx (pc + 1) L S (ax_up h a (.inl (0, (n, .inl (upd f i.toNatClampNeg x))))) else none
      | _ => none
    | _ => none
  | .lastore => match S with
    | .long x :: .int i :: .ref a :: S => match ax_at h a with
      | some (.inl (1, (n, .inr (.inl f)))) => bif ax_inb i n then ax_nx (pc + 1) L S (ax_up h a (.inl (1, (n, .inr (.inl (vp_updL f i.toNatClampNeg x)))))) else none
      | _ => none
    | _ => none
  | .aastore => match S with
    | .ref x :: .int i :: .ref a :: S => match ax_at h a, ax_at h x with
      | some (.inl (2, (n, .inr (.inr (.inr (.inr f)))))), some (.inr (5, _)) => bif ax_inb i n then ax_nx (pc + 1) L S (ax_up h a (.inl (2, (n, .inr (.inr (.inr (.inr (va_up f i.toNatClampNeg (some x))))))))) else none
      | _, _ => none
    | _ => none
  | .arraylength => match S with
    | .ref a :: S => match ax_at h a with
      | some (.inl (t, (n, _))) => bif Nat.blt t 3 then ax_nx (pc + 1) L (.int (Int32.ofNat n) :: S) h else none
      | _ => none
    | .retAddr _ :: S => ax_nx (pc + 1) L (.int (Int32.ofNat X.1) :: S) h
    | _ => none
  | .new ix => match ax_ncl (ax_own mi) ix with
    | some (.inl ci, _) => bif ax_clB h L S then ax_nx (pc + 3) L (.ref h.1.1 :: S) (ax_push h (.inr (ci, ax_df ci)) (ax_cr ci).2.2) else none
    | some (.inr k, _) => match S, ax_thr mi pc with
      | [], some (k', _) => bif Nat.beq k k' then some (.inr (.inl (.inr k, ((h.1.1, h.1.2.1 + 1, h.1.2.2 + 6), h.2)))) else none
      | _, _ => none
    | none => none
  | .newarray ty => match S with
    | .int n :: S => bif decide (0 ≤ n) && Nat.ble n.toNatClampNeg 100000 && ax_clB h L S then (match ty with
        | .int => ax_nx (pc + 2) L (.ref h.1.1 :: S) (ax_push h (.inl (0, (n.toNatClampNeg, .inl (fun _ => 0)))) n.toNatClampNeg)
        | .long => ax_nx (pc + 2) L (.ref h.1.1 :: S) (ax_push h (.inl (1, (n.toNatClampNeg, .inr (.inl (fun _ => 0))))) n.toNatClampNeg)
        | _ => none) else none
    | _ => none
  | .anewarray ix => match ax_ncl (ax_own mi) ix, S with
    | some (.inl 5, _), .int n :: S => bif decide (0 ≤ n) && Nat.ble n.toNatClampNeg 100000 && ax_clB h L S then ax_nx (pc + 3) L (.ref h.1.1 :: S) (ax_push h (.inl (2, (n.toNatClampNeg, .inr (.inr (.inr (.inr (fun _ => none))))))) n.toNatClampNeg) else none
    | _, _ => none
  | .invokevirtual ix => ax_call mi pc L S h 0 ix
  | .invokestatic ix => ax_call mi pc L S h 1 ix
  | .invokespecial ix => ax_call mi pc L S h 2 ix
  | .ireturn => match S with | [.int v] => ax_ret1 mi (.int v) h | _ => none
  | .lreturn => match S with | [.long v] => ax_ret1 mi (.long v) h | _ => none
  | .freturn => match S with | [.float v] => ax_ret1 mi (.float v) h | _ => none
  | .dreturn => match S with | [.double v] => ax_ret1 mi (.double v) h | _ => none
  | .return_ => match S, ax_ret mi with | [], none => some (.inr (.inl (.inl none, h))) | _, _ => none
  | _ => none
def ax_step (X : Nat × (Nat → Int32)) (mi : Nat) (f : ax_F) (h : ax_H) : Option ax_S :=
  match ax_ins mi f.1 with
  | none => none
  | some i => ax_do X mi f.1 f.2.1 f.2.2 h i
/-- the handler of an exception: where it goes on, and the local that then holds the exception -/
def ax_catchIn (mi pc k : Nat) : List (Nat × Nat × Nat × Nat) → Option (Nat × Nat)
  | [] => none
  | (a, b, hp, ct) :: r => bif Nat.ble a pc && Nat.blt pc b then
      (match ax_ncl (ax_own mi) ct with
       | some (.inr k', _) => bif Nat.beq k k' then (match ax_ins mi hp with | some (.astore_n j) => some (hp + 1, j.val) | some (.astore j) => some (hp + 2, j) | _ => none) else ax_catchIn mi pc k r
       | _ => none)
    else ax_catchIn mi pc k r
def ax_run (X : Nat × (Nat → Int32)) : Nat → Nat → Nat → ax_F → ax_H → Option (ax_O × ax_H)
  | 0, _, _, _, _ => none
  | _ + 1, 0, _, _, _ => none
  | n + 1, d + 1, mi, f, h =>
    match ax_step X mi f h with
    | none => none
    | some (.inl (f', h')) => ax_run X n (d + 1) mi f' h'
    | some (.inr (.inl (.inl v, h'))) => some (.inl v, h')
    | some (.inr (.inl (.inr k, h'))) => bif Nat.ble 6 (d + 1) && (ax_hh mi).isEmpty then some (.inr k, h') else none
    | some (.inr (.inr (m, args, f'))) =>
      bif Nat.ble (ax_fl args).length (ax_maxL m) then
          (match ax_run X n d m (0, ax_ent m args, []) h with
           | none => none
           | some (.inl v, h') => bif Nat.beq h'.1.1 h.1.1 || ax_clF h.1.1 f'.2.1 f'.2.2 then ax_run X n (d + 1) mi (f'.1, f'.2.1, v.toList ++ f'.2.2) h' else none
           | some (.inr k, h') => bif (ax_hh mi).isEmpty then some (.inr k, h') else
              (match ax_catchIn mi f.1 k (ax_hh mi) with
               | none => none
               | some (pc2, j) => bif ax_has f'.2.1 j && Nat.beq h'.1.1 h.1.1 then ax_run X n (d + 1) mi (pc2, ax_set (ax_kill f'.2.1 j) j none, []) h' else none))
          else none
