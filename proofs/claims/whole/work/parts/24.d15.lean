/-! WHAT METHODS DO, printed of their bytecode: 15 -/
def D139 (p0 : UInt32) : Option (Int32) := if (nI 0) < (Op.cmpValue (FP.fcmp p0 FP.fconst0) .l) then Option.bind (lp (β := UInt32 × Int32) 3000 (fun (s1 : UInt32 × Int32) => if (Op.cmpValue (FP.fcmp s1.1 FP.fconst2) .l) < (nI 0) then some (.inr (s1.1, s1.2)) else if (nI 254) ≤ s1.2 then some (.inr (s1.1, s1.2)) else (gF (FP.fdiv s1.1 FP.fconst2)).bind fun (x3 : UInt32) => some (.inl (x3, s1.2 + (nI 1)))) (p0, nI 127)) fun (v2 : UInt32 × Int32) => Option.bind (lp (β := UInt32 × Int32) 3000 (fun (s4 : UInt32 × Int32) => if (nI 0) ≤ (Op.cmpValue (FP.fcmp s4.1 FP.fconst1) .g) then some (.inr (s4.1, s4.2)) else if s4.2 ≤ (nI 1) then some (.inr (s4.1, s4.2)) else (gF (FP.fmul s4.1 FP.fconst2)).bind fun (x6 : UInt32) => (kD s4.2).bind fun (x7 : Int32) => some (.inl (x6, x7))) (v2.1, v2.2)) fun (v5 : UInt32 × Int32) => (gF (FP.fsub v5.1 FP.fconst1)).bind fun (x8 : UInt32) => (gF (FP.fmul x8 (1258291200 : UInt32))).bind fun (x9 : UInt32) => some ((v5.2 <<< ((nI 23) &&& nI 31)) ||| (FP.f2i x9)) else some (nI 0)
set_option maxRecDepth 20000 in
theorem w_139 {X : Nat × (Nat → Int32)} {d : Nat} {m : dM} {p0 : UInt32} {r : Int32} (hD : D139 p0 = some r) : ax_Ev X (d + 1) 139 [.float p0] (stt m) (.inl (some (.int r))) (stt m) := by
  unfold D139 at hD
  show ax_Wp X (d + 0 + 1) 139 (0, [some (.float p0), none, none], []) (stt m) _
  refine ax_Wp.go (f' := (3, [some (.float p0), none, none], [.int (Op.cmpValue (FP.fcmp p0 FP.fconst0) .l)])) 3 rfl ?_
  refine ax_Wp.brD hD rfl (fun _ hD => ?_) (fun _ hD => ?_)
  · refine ax_Wp.go (f' := (13, [some (.float p0), some (.float p0), some (.int (nI 127))], [])) 4 rfl ?_
    refine bnd hD (fun v2 hx hD => ?_)
    refine ax_Wp.jn (F := (36, [none, some (.float v2.1), some (.int v2.2)], [])) (hh := stt m) ?_ (fun kkv2 => ?_)
    · refine bnd hD (fun v5 hx hD => ?_)
      refine ax_Wp.jn (F := (57, [none, some (.float v5.1), some (.int v5.2)], [])) (hh := stt m) ?_ (fun kkv5 => ?_)
      · refine ax_Wp.go (f' := (63, [none, some (.float v5.1), some (.int v5.2)], [.float FP.fconst1, .float v5.1, .int (v5.2 <<< ((nI 23) &&& nI 31))])) 5 rfl ?_
        refine ax_Wp.flF hD rfl (fun x8 hD => ?_)
        refine ax_Wp.go (f' := (67, [none, some (.float v5.1), some (.int v5.2)], [.float (1258291200 : UInt32), .float x8, .int (v5.2 <<< ((nI 23) &&& nI 31))])) 1 rfl ?_
        refine ax_Wp.flF hD rfl (fun x9 hD => ?_)
        refine ax_Wp.go (f' := (70, [none, some (.float v5.1), some (.int v5.2)], [.int ((v5.2 <<< ((nI 23) &&& nI 31)) ||| (FP.f2i x9))])) 2 rfl ?_
        obtain rfl := inj hD
        exact ax_Wp.ret rfl ⟨rfl, rfl⟩
      clear hD
      refine ax_Wp.lpD (fun (s4 : UInt32 × Int32) => ((36, [none, some (.float s4.1), some (.int s4.2)], []), stt m)) ?_ hx
      clear hx
      intro s4 v hD ks4
      refine ax_Wp.go (f' := (39, [none, some (.float s4.1), some (.int s4.2)], [.int (Op.cmpValue (FP.fcmp s4.1 FP.fconst1) .g)])) 3 rfl ?_
      refine ax_Wp.brD hD rfl (fun _ hD => ?_) (fun _ hD => ?_)
      · obtain rfl := inj hD
        obtain rfl := ks4.o
        exact kkv5
      · refine ax_Wp.go (f' := (44, [none, some (.float s4.1), some (.int s4.2)], [.int (nI 1), .int s4.2])) 2 rfl ?_
        refine ax_Wp.brD hD rfl (fun _ hD => ?_) (fun _ hD => ?_)
        · obtain rfl := inj hD
          obtain rfl := ks4.o
          exact kkv5
        · refine ax_Wp.go (f' := (49, [none, some (.float s4.1), some (.int s4.2)], [.float FP.fconst2, .float s4.1])) 2 rfl ?_
          refine ax_Wp.flF hD rfl (fun x6 hD => ?_)
          refine ax_Wp.go (f' := (51, [none, some (.float x6), some (.int s4.2)], [])) 1 rfl ?_
          refine bnd hD (fun x7 hx hD => ?_)
          refine ax_Wp.go (f' := (54, [none, some (.float x6), some (.int (s4.2 + Int32.ofInt (-1)))], [])) 1 rfl ?_
          refine ax_Wp.fr (f' := (54, [none, some (.float x6), some (.int x7)], [])) (by rw [← inj (a := s4.2 + Int32.ofInt (-1)) hx]) ?_
          refine ax_Wp.go (f' := (36, [none, some (.float x6), some (.int x7)], [])) 1 rfl ?_
          obtain rfl := inj hD
          exact ks4.i
    clear hD
    refine ax_Wp.dead (L := [none, some (.float p0), some (.int (nI 127))]) ?_ ⟨.inr ⟨rfl, trivial⟩, ⟨.inl rfl, ⟨.inl rfl, trivial⟩⟩⟩
    refine ax_Wp.lpD (fun (s1 : UInt32 × Int32) => ((13, [none, some (.float s1.1), some (.int s1.2)], []), stt m)) ?_ hx
    clear hx
    intro s1 v hD ks1
    refine ax_Wp.go (f' := (16, [none, some (.float s1.1), some (.int s1.2)], [.int (Op.cmpValue (FP.fcmp s1.1 FP.fconst2) .l)])) 3 rfl ?_
    refine ax_Wp.brD hD rfl (fun _ hD => ?_) (fun _ hD => ?_)
    · obtain rfl := inj hD
      obtain rfl := ks1.o
      exact kkv2
    · refine ax_Wp.go (f' := (23, [none, some (.float s1.1), some (.int s1.2)], [.int (nI 254), .int s1.2])) 2 rfl ?_
      refine ax_Wp.brD hD rfl (fun _ hD => ?_) (fun _ hD => ?_)
      · obtain rfl := inj hD
        obtain rfl := ks1.o
        exact kkv2
      · refine ax_Wp.go (f' := (28, [none, some (.float s1.1), some (.int s1.2)], [.float FP.fconst2, .float s1.1])) 2 rfl ?_
        refine ax_Wp.flF hD rfl (fun x3 hD => ?_)
        refine ax_Wp.go (f' := (13, [none, some (.float x3), some (.int (s1.2 + (nI 1)))], [])) 3 rfl ?_
        obtain rfl := inj hD
        exact ks1.i
  · refine ax_Wp.go (f' := (7, [some (.float p0), none, none], [.int (nI 0)])) 1 rfl ?_
    obtain rfl := inj hD
    exact ax_Wp.ret rfl ⟨rfl, rfl⟩
def D140 (p0 : UInt64) : Option (Int64) := if (nI 0) < (Op.cmpValue (FP.dcmp p0 FP.dconst0) .l) then Option.bind (lp (β := UInt64 × Int32) 3000 (fun (s1 : UInt64 × Int32) => if (Op.cmpValue (FP.dcmp s1.1 (4611686018427387904 : UInt64)) .l) < (nI 0) then some (.inr (s1.1, s1.2)) else if (nI 2046) ≤ s1.2 then some (.inr (s1.1, s1.2)) else (gD (FP.ddiv s1.1 (4611686018427387904 : UInt64))).bind fun (x3 : UInt64) => some (.inl (x3, s1.2 + (nI 1)))) (p0, nI 1023)) fun (v2 : UInt64 × Int32) => Option.bind (lp (β := UInt64 × Int32) 3000 (fun (s4 : UInt64 × Int32) => if (nI 0) ≤ (Op.cmpValue (FP.dcmp s4.1 FP.dconst1) .g) then some (.inr (s4.1, s4.2)) else if s4.2 ≤ (nI 1) then some (.inr (s4.1, s4.2)) else (gD (FP.dmul s4.1 (4611686018427387904 : UInt64))).bind fun (x6 : UInt64) => (kD s4.2).bind fun (x7 : Int32) => some (.inl (x6, x7))) (v2.1, v2.2)) fun (v5 : UInt64 × Int32) => (gD (FP.dsub v5.1 FP.dconst1)).bind fun (x8 : UInt64) => (gD (FP.dmul x8 (4841369599423283200 : UInt64))).bind fun (x9 : UInt64) => some ((v5.2.toInt64 <<< ((nI 52).toInt64 &&& 63)) ||| (FP.d2l x9)) else some (0 : Int64)
set_option maxRecDepth 20000 in
theorem w_140 {X : Nat × (Nat → Int32)} {d : Nat} {m : dM} {p0 : UInt64} {r : Int64} (hD : D140 p0 = some r) : ax_Ev X (d + 1) 140 [.double p0] (stt m) (.inl (some (.long r))) (stt m) := by
  unfold D140 at hD
  show ax_Wp X (d + 0 + 1) 140 (0, [some (.double p0), none, none, none, none], []) (stt m) _
  refine ax_Wp.go (f' := (3, [some (.double p0), none, none, none, none], [.int (Op.cmpValue (FP.dcmp p0 FP.dconst0) .l)])) 3 rfl ?_
  refine ax_Wp.brD hD rfl (fun _ hD => ?_) (fun _ hD => ?_)
  · refine ax_Wp.go (f' := (15, [some (.double p0), none, some (.double p0), none, some (.int (nI 1023))], [])) 4 rfl ?_
    refine bnd hD (fun v2 hx hD => ?_)
    refine ax_Wp.jn (F := (43, [none, none, some (.double v2.1), none, some (.int v2.2)], [])) (hh := stt m) ?_ (fun kkv2 => ?_)
    · refine bnd hD (fun v5 hx hD => ?_)
      refine ax_Wp.jn (F := (67, [none, none, some (.double v5.1), none, some (.int v5.2)], [])) (hh := stt m) ?_ (fun kkv5 => ?_)
      · refine ax_Wp.go (f' := (75, [none, none, some (.double v5.1), none, some (.int v5.2)], [.double FP.dconst1, .double v5.1, .long (v5.2.toInt64 <<< ((nI 52).toInt64 &&& 63))])) 6 rfl ?_
        refine ax_Wp.flD hD rfl (fun x8 hD => ?_)
        refine ax_Wp.go (f' := (79, [none, none, some (.double v5.1), none, some (.int v5.2)], [.double (4841369599423283200 : UInt64), .double x8, .long (v5.2.toInt64 <<< ((nI 52).toInt64 &&& 63))])) 1 rfl ?_
        refine ax_Wp.flD hD rfl (fun x9 hD => ?_)
        refine ax_Wp.go (f' := (82, [none, none, some (.double v5.1), none, some (.int v5.2)], [.long ((v5.2.toInt64 <<< ((nI 52).toInt64 &&& 63)) ||| (FP.d2l x9))])) 2 rfl ?_
        obtain rfl := inj hD
        exact ax_Wp.ret rfl ⟨rfl, rfl⟩
      clear hD
      refine ax_Wp.lpD (fun (s4 : UInt64 × Int32) => ((43, [none, none, some (.double s4.1), none, some (.int s4.2)], []), stt m)) ?_ hx
      clear hx
      intro s4 v hD ks4
      refine ax_Wp.go (f' := (46, [none, none, some (.double s4.1), none, some (.int s4.2)], [.int (Op.cmpValue (FP.dcmp s4.1 FP.dconst1) .g)])) 3 rfl ?_
      refine ax_Wp.brD hD rfl (fun _ hD => ?_) (fun _ hD => ?_)
      · obtain rfl := inj hD
        obtain rfl := ks4.o
        exact kkv5
      · refine ax_Wp.go (f' := (52, [none, none, some (.double s4.1), none, some (.int s4.2)], [.int (nI 1), .int s4.2])) 2 rfl ?_
        refine ax_Wp.brD hD rfl (fun _ hD => ?_) (fun _ hD => ?_)
        · obtain rfl := inj hD
          obtain rfl := ks4.o
          exact kkv5
        · refine ax_Wp.go (f' := (59, [none, none, some (.double s4.1), none, some (.int s4.2)], [.double (4611686018427387904 : UInt64), .double s4.1])) 2 rfl ?_
          refine ax_Wp.flD hD rfl (fun x6 hD => ?_)
          refine ax_Wp.go (f' := (61, [none, none, some (.double x6), none, some (.int s4.2)], [])) 1 rfl ?_
          refine bnd hD (fun x7 hx hD => ?_)
          refine ax_Wp.go (f' := (64, [none, none, some (.double x6), none, some (.int (s4.2 + Int32.ofInt (-1)))], [])) 1 rfl ?_
          refine ax_Wp.fr (f' := (64, [none, none, some (.double x6), none, some (.int x7)], [])) (by rw [← inj (a := s4.2 + Int32.ofInt (-1)) hx]) ?_
          refine ax_Wp.go (f' := (43, [none, none, some (.double x6), none, some (.int x7)], [])) 1 rfl ?_
          obtain rfl := inj hD
          exact ks4.i
    clear hD
    refine ax_Wp.dead (L := [none, none, some (.double p0), none, some (.int (nI 1023))]) ?_ ⟨.inr ⟨rfl, trivial⟩, ⟨.inl rfl, ⟨.inl rfl, ⟨.inl rfl, ⟨.inl rfl, trivial⟩⟩⟩⟩⟩
    refine ax_Wp.lpD (fun (s1 : UInt64 × Int32) => ((15, [none, none, some (.double s1.1), none, some (.int s1.2)], []), stt m)) ?_ hx
    clear hx
    intro s1 v hD ks1
    refine ax_Wp.go (f' := (20, [none, none, some (.double s1.1), none, some (.int s1.2)], [.int (Op.cmpValue (FP.dcmp s1.1 (4611686018427387904 : UInt64)) .l)])) 3 rfl ?_
    refine ax_Wp.brD hD rfl (fun _ hD => ?_) (fun _ hD => ?_)
    · obtain rfl := inj hD
      obtain rfl := ks1.o
      exact kkv2
    · refine ax_Wp.go (f' := (28, [none, none, some (.double s1.1), none, some (.int s1.2)], [.int (nI 2046), .int s1.2])) 2 rfl ?_
      refine ax_Wp.brD hD rfl (fun _ hD => ?_) (fun _ hD => ?_)
      · obtain rfl := inj hD
        obtain rfl := ks1.o
        exact kkv2
      · refine ax_Wp.go (f' := (35, [none, none, some (.double s1.1), none, some (.int s1.2)], [.double (4611686018427387904 : UInt64), .double s1.1])) 2 rfl ?_
        refine ax_Wp.flD hD rfl (fun x3 hD => ?_)
        refine ax_Wp.go (f' := (15, [none, none, some (.double x3), none, some (.int (s1.2 + (nI 1)))], [])) 3 rfl ?_
        obtain rfl := inj hD
        exact ks1.i
  · refine ax_Wp.go (f' := (7, [some (.double p0), none, none, none, none], [.long (0 : Int64)])) 1 rfl ?_
    obtain rfl := inj hD
    exact ax_Wp.ret rfl ⟨rfl, rfl⟩
def D136 (m : dM) (p0 : Int64) (p1 : Int32) : Option (Int64 ⊕ Nat) := cT (D102 m p1) m (fun (x1 : Int32) => (D138 p0 x1).bind fun (x4 : Int64) => cT (D103 m p1) m (fun (x5 : Int32) => (D138 x4 x5).bind fun (x8 : Int64) => cT (D105 m p1) m (fun (x9 : Int32) => (D137 x8 x9.toInt64).bind fun (x12 : Int64) => cT (D102 m p1) m (fun (x13 : Int32) => if x13 = (nI 0) then cT (D104 m p1) m (fun (x16 : Int32) => (D137 x12 x16.toInt64).bind fun (x19 : Int64) => some (.inl x19)) (fun (j17 : Nat) (m18 : dM) => some (.inr j17)) else some (.inl x12)) (fun (j14 : Nat) (m15 : dM) => some (.inr j14))) (fun (j10 : Nat) (m11 : dM) => some (.inr j10))) (fun (j6 : Nat) (m7 : dM) => some (.inr j6))) (fun (j2 : Nat) (m3 : dM) => some (.inr j2))
set_option maxRecDepth 20000 in
theorem w_136 {X : Nat × (Nat → Int32)} {d : Nat} {m : dM} {p0 : Int64} {p1 : Int32} {r : Int64 ⊕ Nat} (hD : D136 m p0 p1 = some r) : ax_Ev X (d + 8) 136 [.ref 0, .long p0, .int p1] (stt m) (oT (fun x => some (.long x)) r) (stt (bT m r)) := by
  unfold D136 at hD
  show ax_Wp X (d + 7 + 1) 136 (0, [some (.ref 0), some (.long p0), none, some (.int p1), none, none], []) (stt m) _
  refine ax_Wp.go (f' := (3, [some (.ref 0), some (.long p0), none, some (.int p1), none, none], [.int p1, .ref 0, .long p0])) 3 rfl ?_
  refine cT.sp hD (fun x1 hx hD => ?_) (fun j2 hx hD => ?_)
  · refine ax_Wp.callE (f' := (6, [some (.ref 0), some (.long p0), none, some (.int p1), none, none], [.long p0])) rfl rfl (w_102 (d := d + 0) hx) rfl ?_
    refine bnd hD (fun x4 hx hD => ?_)
    refine ax_Wp.callE (f' := (9, [some (.ref 0), some (.long p0), none, some (.int p1), none, none], [])) rfl rfl (w_138 (d := d + 5) hx) rfl ?_
    refine ax_Wp.go (f' := (15, [some (.ref 0), some (.long p0), none, some (.int p1), some (.long x4), none], [.int p1, .ref 0, .long x4])) 4 rfl ?_
    refine cT.sp hD (fun x5 hx hD => ?_) (fun j6 hx hD => ?_)
    · refine ax_Wp.callE (f' := (18, [some (.ref 0), some (.long p0), none, some (.int p1), some (.long x4), none], [.long x4])) rfl rfl (w_103 (d := d + 0) hx) rfl ?_
      refine bnd hD (fun x8 hx hD => ?_)
      refine ax_Wp.callE (f' := (21, [some (.ref 0), some (.long p0), none, some (.int p1), some (.long x4), none], [])) rfl rfl (w_138 (d := d + 5) hx) rfl ?_
      refine ax_Wp.go (f' := (27, [some (.ref 0), some (.long p0), none, some (.int p1), some (.long x8), none], [.int p1, .ref 0, .long x8])) 4 rfl ?_
      refine cT.sp hD (fun x9 hx hD => ?_) (fun j10 hx hD => ?_)
      · refine ax_Wp.callE (f' := (30, [some (.ref 0), some (.long p0), none, some (.int p1), some (.long x8), none], [.long x8])) rfl rfl (w_105 (d := d + 0) hx) rfl ?_
        refine ax_Wp.go (f' := (31, [some (.ref 0), some (.long p0), none, some (.int p1), some (.long x8), none], [.long x9.toInt64, .long x8])) 1 rfl ?_
        refine bnd hD (fun x12 hx hD => ?_)
        refine ax_Wp.callE (f' := (34, [some (.ref 0), some (.long p0), none, some (.int p1), some (.long x8), none], [])) rfl rfl (w_137 (d := d + 6) hx) rfl ?_
        refine ax_Wp.go (f' := (38, [some (.ref 0), some (.long p0), none, some (.int p1), some (.long x12), none], [.int p1, .ref 0])) 3 rfl ?_
        refine cT.sp hD (fun x13 hx hD => ?_) (fun j14 hx hD => ?_)
        · refine ax_Wp.callE (f' := (41, [some (.ref 0), some (.long p0), none, some (.int p1), some (.long x12), none], [])) rfl rfl (w_102 (d := d + 0) hx) rfl ?_
          refine ax_Wp.brD hD rfl (fun _ hD => ?_) (fun _ hD => ?_)
          · refine ax_Wp.go (f' := (48, [some (.ref 0), some (.long p0), none, some (.int p1), some (.long x12), none], [.int p1, .ref 0, .long x12])) 3 rfl ?_
            refine cT.sp hD (fun x16 hx hD => ?_) (fun j17 hx hD => ?_)
            · refine ax_Wp.callE (f' := (51, [some (.ref 0), some (.long p0), none, some (.int p1), some (.long x12), none], [.long x12])) rfl rfl (w_104 (d := d + 0) hx) rfl ?_
              refine ax_Wp.go (f' := (52, [some (.ref 0), some (.long p0), none, some (.int p1), some (.long x12), none], [.long x16.toInt64, .long x12])) 1 rfl ?_
              refine bnd hD (fun x19 hx hD => ?_)
              refine ax_Wp.callE (f' := (55, [some (.ref 0), some (.long p0), none, some (.int p1), some (.long x12), none], [])) rfl rfl (w_137 (d := d + 6) hx) rfl ?_
              refine ax_Wp.go (f' := (59, [some (.ref 0), some (.long p0), none, some (.int p1), some (.long x19), none], [.long x19])) 2 rfl ?_
              obtain rfl := inj hD
              exact ax_Wp.ret rfl ⟨rfl, rfl⟩
            · obtain rfl := inj hD
              exact ax_Wp.callX (f' := (51, [some (.ref 0), some (.long p0), none, some (.int p1), some (.long x12), none], [.long x12])) rfl rfl (w_104 (d := d + 0) hx) rfl ⟨rfl, rfl⟩
          · refine ax_Wp.go (f' := (59, [some (.ref 0), some (.long p0), none, some (.int p1), some (.long x12), none], [.long x12])) 1 rfl ?_
            obtain rfl := inj hD
            exact ax_Wp.ret rfl ⟨rfl, rfl⟩
        · obtain rfl := inj hD
          exact ax_Wp.callX (f' := (41, [some (.ref 0), some (.long p0), none, some (.int p1), some (.long x12), none], [])) rfl rfl (w_102 (d := d + 0) hx) rfl ⟨rfl, rfl⟩
      · obtain rfl := inj hD
        exact ax_Wp.callX (f' := (30, [some (.ref 0), some (.long p0), none, some (.int p1), some (.long x8), none], [.long x8])) rfl rfl (w_105 (d := d + 0) hx) rfl ⟨rfl, rfl⟩
    · obtain rfl := inj hD
      exact ax_Wp.callX (f' := (18, [some (.ref 0), some (.long p0), none, some (.int p1), some (.long x4), none], [.long x4])) rfl rfl (w_103 (d := d + 0) hx) rfl ⟨rfl, rfl⟩
  · obtain rfl := inj hD
    exact ax_Wp.callX (f' := (6, [some (.ref 0), some (.long p0), none, some (.int p1), none, none], [.long p0])) rfl rfl (w_102 (d := d + 0) hx) rfl ⟨rfl, rfl⟩
def D135 (m : dM) (p0 : Int64) (p1 : Int32) : Option ((Int64 ⊕ Nat) × dM) := cT (D94 m p1) m (fun (x1 : Int32) => (D137 p0 x1.toInt64).bind fun (x4 : Int64) => cT (D95 m p1) m (fun (x5 : Int32) => (D138 x4 x5).bind fun (x8 : Int64) => cT (D96 m p1) m (fun (x9 : Int32) => (D137 x8 x9.toInt64).bind fun (x12 : Int64) => cT (D97 m p1) m (fun (x13 : Int32) => (D138 x12 x13).bind fun (x16 : Int64) => cT (D97 m p1) m (fun (x17 : Int32) => if x17 = (nI 0) then cT (D99 m p1) m (fun (x20 : Int32) => (D137 x16 x20.toInt64).bind fun (x23 : Int64) => cT (D100 m p1) m (fun (x24 : Int32) => (D137 x23 x24.toInt64).bind fun (x27 : Int64) => cT (D113 m p1) m (fun (x28 : Int32) => (D137 x27 x28.toInt64).bind fun (x31 : Int64) => cG (D114 m p1) (fun (x32 : Int32) (m35 : dM) => (D137 x31 x32.toInt64).bind fun (x36 : Int64) => cG (D119 m35 p1) (fun (x37 : Int32) (m40 : dM) => (D137 x36 x37.toInt64).bind fun (x41 : Int64) => lp (β := (Int64 ⊕ Nat) × dM) 3000 (fun (s42 : Int64 × Int32) => if (nI 10) ≤ s42.2 then some (.inr (.inl s42.1, m40)) else cT (D115 m40 p1 s42.2) m40 (fun (x43 : Int32) => (D137 s42.1 x43.toInt64).bind fun (x46 : Int64) => some (.inl (x46, s42.2 + (nI 1)))) (fun (j44 : Nat) (m45 : dM) => some (.inr (.inr j44, m45)))) (x41, nI 0)) (fun (j38 : Nat) (m39 : dM) => some (.inr j38, m39))) (fun (j33 : Nat) (m34 : dM) => some (.inr j33, m34))) (fun (j29 : Nat) (m30 : dM) => some (.inr j29, m30))) (fun (j25 : Nat) (m26 : dM) => some (.inr j25, m26))) (fun (j21 : Nat) (m22 : dM) => some (.inr j21, m22)) else cT (D98 m p1) m (fun (x47 : Int32) => (D137 x16 x47.toInt64).bind fun (x50 : Int64) => cT (D99 m p1) m (fun (x51 : Int32) => (D137 x50 x51.toInt64).bind fun (x54 : Int64) => cT (D100 m p1) m (fun (x55 : Int32) => (D137 x54 x55.toInt64).bind fun (x58 : Int64) => cT (D113 m p1) m (fun (x59 : Int32) => (D137 x58 x59.toInt64).bind fun (x62 : Int64) => cG (D114 m p1) (fun (x63 : Int32) (m66 : dM) => (D137 x62 x63.toInt64).bind fun (x67 : Int64) => cG (D119 m66 p1) (fun (x68 : Int32) (m71 : dM) => (D137 x67 x68.toInt64).bind fun (x72 : Int64) => lp (β := (Int64 ⊕ Nat) × dM) 3000 (fun (s73 : Int64 × Int32) => if (nI 10) ≤ s73.2 then some (.inr (.inl s73.1, m71)) else cT (D115 m71 p1 s73.2) m71 (fun (x74 : Int32) => (D137 s73.1 x74.toInt64).bind fun (x77 : Int64) => some (.inl (x77, s73.2 + (nI 1)))) (fun (j75 : Nat) (m76 : dM) => some (.inr (.inr j75, m76)))) (x72, nI 0)) (fun (j69 : Nat) (m70 : dM) => some (.inr j69, m70))) (fun (j64 : Nat) (m65 : dM) => some (.inr j64, m65))) (fun (j60 : Nat) (m61 : dM) => some (.inr j60, m61))) (fun (j56 : Nat) (m57 : dM) => some (.inr j56, m57))) (fun (j52 : Nat) (m53 : dM) => some (.inr j52, m53))) (fun (j48 : Nat) (m49 : dM) => some (.inr j48, m49))) (fun (j18 : Nat) (m19 : dM) => some (.inr j18, m19))) (fun (j14 : Nat) (m15 : dM) => some (.inr j14, m15))) (fun (j10 : Nat) (m11 : dM) => some (.inr j10, m11))) (fun (j6 : Nat) (m7 : dM) => some (.inr j6, m7))) (fun (j2 : Nat) (m3 : dM) => some (.inr j2, m3))
set_option maxRecDepth 20000 in
theorem w_135 {X : Nat × (Nat → Int32)} {d : Nat} {m : dM} {p0 : Int64} {p1 : Int32} {r : (Int64 ⊕ Nat) × dM} (hD : D135 m p0 p1 = some r) : ax_Ev X (d + 8) 135 [.ref 0, .long p0, .int p1] (stt m) (oT (fun x => some (.long x)) r.1) (stt r.2) := by
  unfold D135 at hD
  show ax_Wp X (d + 7 + 1) 135 (0, [some (.ref 0), some (.long p0), none, some (.int p1), none, none, none], []) (stt m) _
  refine ax_Wp.go (f' := (3, [some (.ref 0), some (.long p0), none, some (.int p1), none, none, none], [.int p1, .ref 0, .long p0])) 3 rfl ?_
  refine cT.sp hD (fun x1 hx hD => ?_) (fun j2 hx hD => ?_)
  · refine ax_Wp.callE (f' := (6, [some (.ref 0), some (.long p0), none, some (.int p1), none, none, none], [.long p0])) rfl rfl (w_94 (d := d + 0) hx) rfl ?_
    refine ax_Wp.go (f' := (7, [some (.ref 0), some (.long p0), none, some (.int p1), none, none, none], [.long x1.toInt64, .long p0])) 1 rfl ?_
    refine bnd hD (fun x4 hx hD => ?_)
    refine ax_Wp.callE (f' := (10, [some (.ref 0), some (.long p0), none, some (.int p1), none, none, none], [])) rfl rfl (w_137 (d := d + 6) hx) rfl ?_
    refine ax_Wp.go (f' := (16, [some (.ref 0), some (.long p0), none, some (.int p1), some (.long x4), none, none], [.int p1, .ref 0, .long x4])) 4 rfl ?_
    refine cT.sp hD (fun x5 hx hD => ?_) (fun j6 hx hD => ?_)
    · refine ax_Wp.callE (f' := (19, [some (.ref 0), some (.long p0), none, some (.int p1), some (.long x4), none, none], [.long x4])) rfl rfl (w_95 (d := d + 0) hx) rfl ?_
      refine bnd hD (fun x8 hx hD => ?_)
      refine ax_Wp.callE (f' := (22, [some (.ref 0), some (.long p0), none, some (.int p1), some (.long x4), none, none], [])) rfl rfl (w_138 (d := d + 5) hx) rfl ?_
      refine ax_Wp.go (f' := (28, [some (.ref 0), some (.long p0), none, some (.int p1), some (.long x8), none, none], [.int p1, .ref 0, .long x8])) 4 rfl ?_
      refine cT.sp hD (fun x9 hx hD => ?_) (fun j10 hx hD => ?_)
      · refine ax_Wp.callE (f' := (31, [some (.ref 0), some (.long p0), none, some (.int p1), some (.long x8), none, none], [.long x8])) rfl rfl (w_96 (d := d + 0) hx) rfl ?_
        refine ax_Wp.go (f' := (32, [some (.ref 0), some (.long p0), none, some (.int p1), some (.long x8), none, none], [.long x9.toInt64, .long x8])) 1 rfl ?_
        refine bnd hD (fun x12 hx hD => ?_)
        refine ax_Wp.callE (f' := (35, [some (.ref 0), some (.long p0), none, some (.int p1), some (.long x8), none, none], [])) rfl rfl (w_137 (d := d + 6) hx) rfl ?_
        refine ax_Wp.go (f' := (41, [some (.ref 0), some (.long p0), none, some (.int p1), some (.long x12), none, none], [.int p1, .ref 0, .long x12])) 4 rfl ?_
        refine cT.sp hD (fun x13 hx hD => ?_) (fun j14 hx hD => ?_)
        · refine ax_Wp.callE (f' := (44, [some (.ref 0), some (.long p0), none, some (.int p1), some (.long x12), none, none], [.long x12])) rfl rfl (w_97 (d := d + 0) hx) rfl ?_
          refine bnd hD (fun x16 hx hD => ?_)
          refine ax_Wp.callE (f' := (47, [some (.ref 0), some (.long p0), none, some (.int p1), some (.long x12), none, none], [])) rfl rfl (w_138 (d := d + 5) hx) rfl ?_
          refine ax_Wp.go (f' := (51, [some (.ref 0), some (.long p0), none, some (.int p1), some (.long x16), none, none], [.int p1, .ref 0])) 3 rfl ?_
          refine cT.sp hD (fun x17 hx hD => ?_) (fun j18 hx hD => ?_)
          · refine ax_Wp.callE (f' := (54, [some (.ref 0), some (.long p0), none, some (.int p1), some (.long x16), none, none], [])) rfl rfl (w_97 (d := d + 0) hx) rfl ?_
            refine ax_Wp.brD hD rfl (fun _ hD => ?_) (fun _ hD => ?_)
            · refine ax_Wp.go (f' := (74, [some (.ref 0), some (.long p0), none, some (.int p1), some (.long x16), none, none], [.int p1, .ref 0, .long x16])) 3 rfl ?_
              refine cT.sp hD (fun x20 hx hD => ?_) (fun j21 hx hD => ?_)
              · refine ax_Wp.callE (f' := (77, [some (.ref 0), some (.long p0), none, some (.int p1), some (.long x16), none, none], [.long x16])) rfl rfl (w_99 (d := d + 0) hx) rfl ?_
                refine ax_Wp.go (f' := (78, [some (.ref 0), some (.long p0), none, some (.int p1), some (.long x16), none, none], [.long x20.toInt64, .long x16])) 1 rfl ?_
                refine bnd hD (fun x23 hx hD => ?_)
                refine ax_Wp.callE (f' := (81, [some (.ref 0), some (.long p0), none, some (.int p1), some (.long x16), none, none], [])) rfl rfl (w_137 (d := d + 6) hx) rfl ?_
                refine ax_Wp.go (f' := (87, [some (.ref 0), some (.long p0), none, some (.int p1), some (.long x23), none, none], [.int p1, .ref 0, .long x23])) 4 rfl ?_
                refine cT.sp hD (fun x24 hx hD => ?_) (fun j25 hx hD => ?_)
                · refine ax_Wp.callE (f' := (90, [some (.ref 0), some (.long p0), none, some (.int p1), some (.long x23), none, none], [.long x23])) rfl rfl (w_100 (d := d + 0) hx) rfl ?_
                  refine ax_Wp.go (f' := (91, [some (.ref 0), some (.long p0), none, some (.int p1), some (.long x23), none, none], [.long x24.toInt64, .long x23])) 1 rfl ?_
                  refine bnd hD (fun x27 hx hD => ?_)
                  refine ax_Wp.callE (f' := (94, [some (.ref 0), some (.long p0), none, some (.int p1), some (.long x23), none, none], [])) rfl rfl (w_137 (d := d + 6) hx) rfl ?_
                  refine ax_Wp.go (f' := (100, [some (.ref 0), some (.long p0), none, some (.int p1), some (.long x27), none, none], [.int p1, .ref 0, .long x27])) 4 rfl ?_
                  refine cT.sp hD (fun x28 hx hD => ?_) (fun j29 hx hD => ?_)
                  · refine ax_Wp.callE (f' := (103, [some (.ref 0), some (.long p0), none, some (.int p1), some (.long x27), none, none], [.long x27])) rfl rfl (w_113 (d := d + 0) hx) rfl ?_
                    refine ax_Wp.go (f' := (104, [some (.ref 0), some (.long p0), none, some (.int p1), some (.long x27), none, none], [.long x28.toInt64, .long x27])) 1 rfl ?_
                    refine bnd hD (fun x31 hx hD => ?_)
                    refine ax_Wp.callE (f' := (107, [some (.ref 0), some (.long p0), none, some (.int p1), some (.long x27), none, none], [])) rfl rfl (w_137 (d := d + 6) hx) rfl ?_
                    refine ax_Wp.go (f' := (113, [some (.ref 0), some (.long p0), none, some (.int p1), some (.long x31), none, none], [.int p1, .ref 0, .long x31])) 4 rfl ?_
                    refine cG.sp hD (fun x32 m35 hx hD => ?_) (fun j33 m34 hx hD => ?_)
                    · refine ax_Wp.callE (f' := (116, [some (.ref 0), some (.long p0), none, some (.int p1), some (.long x31), none, none], [.long x31])) rfl rfl (w_114 (d := d + 0) hx) rfl ?_
                      refine ax_Wp.go (f' := (117, [some (.ref 0), some (.long p0), none, some (.int p1), some (.long x31), none, none], [.long x32.toInt64, .long x31])) 1 rfl ?_
                      refine bnd hD (fun x36 hx hD => ?_)
                      refine ax_Wp.callE (f' := (120, [some (.ref 0), some (.long p0), none, some (.int p1), some (.long x31), none, none], [])) rfl rfl (w_137 (d := d + 6) hx) rfl ?_
                      refine ax_Wp.go (f' := (126, [some (.ref 0), some (.long p0), none, some (.int p1), some (.long x36), none, none], [.int p1, .ref 0, .long x36])) 4 rfl ?_
                      refine cG.sp hD (fun x37 m40 hx hD => ?_) (fun j38 m39 hx hD => ?_)
                      · refine ax_Wp.callE (f' := (129, [some (.ref 0), some (.long p0), none, some (.int p1), some (.long x36), none, none], [.long x36])) rfl rfl (w_119 (d := d + 0) hx) rfl ?_
                        refine ax_Wp.go (f' := (130, [some (.ref 0), some (.long p0), none, some (.int p1), some (.long x36), none, none], [.long x37.toInt64, .long x36])) 1 rfl ?_
                        refine bnd hD (fun x41 hx hD => ?_)
                        refine ax_Wp.callE (f' := (133, [some (.ref 0), some (.long p0), none, some (.int p1), some (.long x36), none, none], [])) rfl rfl (w_137 (d := d + 6) hx) rfl ?_
                        refine ax_Wp.go (f' := (138, [some (.ref 0), some (.long p0), none, some (.int p1), some (.long x41), none, some (.int (nI 0))], [])) 3 rfl ?_
                        refine ax_Wp.dead (L := [some (.ref 0), none, none, some (.int p1), some (.long x41), none, some (.int (nI 0))]) ?_ ⟨.inl rfl, ⟨.inr ⟨rfl, trivial⟩, ⟨.inl rfl, ⟨.inl rfl, ⟨.inl rfl, ⟨.inl rfl, ⟨.inl rfl, trivial⟩⟩⟩⟩⟩⟩⟩
                        refine ax_Wp.lpD (fun (s42 : Int64 × Int32) => ((138, [some (.ref 0), none, none, some (.int p1), some (.long s42.1), none, some (.int s42.2)], []), stt m40)) ?_ hD
                        clear hD
                        intro s42 v hD ks42
                        refine ax_Wp.go (f' := (142, [some (.ref 0), none, none, some (.int p1), some (.long s42.1), none, some (.int s42.2)], [.int (nI 10), .int s42.2])) 2 rfl ?_
                        refine ax_Wp.brD hD rfl (fun _ hD => ?_) (fun _ hD => ?_)
                        · refine ax_Wp.go (f' := (168, [some (.ref 0), none, none, some (.int p1), some (.long s42.1), none, some (.int s42.2)], [.long s42.1])) 1 rfl ?_
                          obtain rfl := inj hD
                          obtain rfl := ks42.o
                          exact ax_Wp.ret rfl ⟨rfl, rfl⟩
                        · refine ax_Wp.go (f' := (151, [some (.ref 0), none, none, some (.int p1), some (.long s42.1), none, some (.int s42.2)], [.int s42.2, .int p1, .ref 0, .long s42.1])) 4 rfl ?_
                          refine cT.sp hD (fun x43 hx hD => ?_) (fun j44 hx hD => ?_)
                          · refine ax_Wp.callE (f' := (154, [some (.ref 0), none, none, some (.int p1), some (.long s42.1), none, some (.int s42.2)], [.long s42.1])) rfl rfl (w_115 (d := d + 0) hx) rfl ?_
                            refine ax_Wp.go (f' := (155, [some (.ref 0), none, none, some (.int p1), some (.long s42.1), none, some (.int s42.2)], [.long x43.toInt64, .long s42.1])) 1 rfl ?_
                            refine bnd hD (fun x46 hx hD => ?_)
                            refine ax_Wp.callE (f' := (158, [some (.ref 0), none, none, some (.int p1), some (.long s42.1), none, some (.int s42.2)], [])) rfl rfl (w_137 (d := d + 6) hx) rfl ?_
                            refine ax_Wp.go (f' := (138, [some (.ref 0), none, none, some (.int p1), some (.long x46), none, some (.int (s42.2 + (nI 1)))], [])) 3 rfl ?_
                            obtain rfl := inj hD
                            exact ks42.i
                          · obtain rfl := inj hD
                            obtain rfl := ks42.o
                            exact ax_Wp.callX (f' := (154, [some (.ref 0), none, none, some (.int p1), some (.long s42.1), none, some (.int s42.2)], [.long s42.1])) rfl rfl (w_115 (d := d + 0) hx) rfl ⟨rfl, rfl⟩
                      · obtain rfl := inj hD
                        exact ax_Wp.callX (f' := (129, [some (.ref 0), some (.long p0), none, some (.int p1), some (.long x36), none, none], [.long x36])) rfl rfl (w_119 (d := d + 0) hx) rfl ⟨rfl, rfl⟩
                    · obtain rfl := inj hD
                      exact ax_Wp.callX (f' := (116, [some (.ref 0), some (.long p0), none, some (.int p1), some (.long x31), none, none], [.long x31])) rfl rfl (w_114 (d := d + 0) hx) rfl ⟨rfl, rfl⟩
                  · obtain rfl := inj hD
                    exact ax_Wp.callX (f' := (103, [some (.ref 0), some (.long p0), none, some (.int p1), some (.long x27), none, none], [.long x27])) rfl rfl (w_113 (d := d + 0) hx) rfl ⟨rfl, rfl⟩
                · obtain rfl := inj hD
                  exact ax_Wp.callX (f' := (90, [some (.ref 0), some (.long p0), none, some (.int p1), some (.long x23), none, none], [.long x23])) rfl rfl (w_100 (d := d + 0) hx) rfl ⟨rfl, rfl⟩
              · obtain rfl := inj hD
                exact ax_Wp.callX (f' := (77, [some (.ref 0), some (.long p0), none, some (.int p1), some (.long x16), none, none], [.long x16])) rfl rfl (w_99 (d := d + 0) hx) rfl ⟨rfl, rfl⟩
            · refine ax_Wp.go (f' := (61, [some (.ref 0), some (.long p0), none, some (.int p1), some (.long x16), none, none], [.int p1, .ref 0, .long x16])) 3 rfl ?_
              refine cT.sp hD (fun x47 hx hD => ?_) (fun j48 hx hD => ?_)
              · refine ax_Wp.callE (f' := (64, [some (.ref 0), some (.long p0), none, some (.int p1), some (.long x16), none, none], [.long x16])) rfl rfl (w_98 (d := d + 0) hx) rfl ?_
                refine ax_Wp.go (f' := (65, [some (.ref 0), some (.long p0), none, some (.int p1), some (.long x16), none, none], [.long x47.toInt64, .long x16])) 1 rfl ?_
                refine bnd hD (fun x50 hx hD => ?_)
                refine ax_Wp.callE (f' := (68, [some (.ref 0), some (.long p0), none, some (.int p1), some (.long x16), none, none], [])) rfl rfl (w_137 (d := d + 6) hx) rfl ?_
                refine ax_Wp.go (f' := (74, [some (.ref 0), some (.long p0), none, some (.int p1), some (.long x50), none, none], [.int p1, .ref 0, .long x50])) 4 rfl ?_
                refine cT.sp hD (fun x51 hx hD => ?_) (fun j52 hx hD => ?_)
                · refine ax_Wp.callE (f' := (77, [some (.ref 0), some (.long p0), none, some (.int p1), some (.long x50), none, none], [.long x50])) rfl rfl (w_99 (d := d + 0) hx) rfl ?_
                  refine ax_Wp.go (f' := (78, [some (.ref 0), some (.long p0), none, some (.int p1), some (.long x50), none, none], [.long x51.toInt64, .long x50])) 1 rfl ?_
                  refine bnd hD (fun x54 hx hD => ?_)
                  refine ax_Wp.callE (f' := (81, [some (.ref 0), some (.long p0), none, some (.int p1), some (.long x50), none, none], [])) rfl rfl (w_137 (d := d + 6) hx) rfl ?_
                  refine ax_Wp.go (f' := (87, [some (.ref 0), some (.long p0), none, some (.int p1), some (.long x54), none, none], [.int p1, .ref 0, .long x54])) 4 rfl ?_
                  refine cT.sp hD (fun x55 hx hD => ?_) (fun j56 hx hD => ?_)
                  · refine ax_Wp.callE (f' := (90, [some (.ref 0), some (.long p0), none, some (.int p1), some (.long x54), none, none], [.long x54])) rfl rfl (w_100 (d := d + 0) hx) rfl ?_
                    refine ax_Wp.go (f' := (91, [some (.ref 0), some (.long p0), none, some (.int p1), some (.long x54), none, none], [.long x55.toInt64, .long x54])) 1 rfl ?_
                    refine bnd hD (fun x58 hx hD => ?_)
                    refine ax_Wp.callE (f' := (94, [some (.ref 0), some (.long p0), none, some (.int p1), some (.long x54), none, none], [])) rfl rfl (w_137 (d := d + 6) hx) rfl ?_
                    refine ax_Wp.go (f' := (100, [some (.ref 0), some (.long p0), none, some (.int p1), some (.long x58), none, none], [.int p1, .ref 0, .long x58])) 4 rfl ?_
                    refine cT.sp hD (fun x59 hx hD => ?_) (fun j60 hx hD => ?_)
                    · refine ax_Wp.callE (f' := (103, [some (.ref 0), some (.long p0), none, some (.int p1), some (.long x58), none, none], [.long x58])) rfl rfl (w_113 (d := d + 0) hx) rfl ?_
                      refine ax_Wp.go (f' := (104, [some (.ref 0), some (.long p0), none, some (.int p1), some (.long x58), none, none], [.long x59.toInt64, .long x58])) 1 rfl ?_
                      refine bnd hD (fun x62 hx hD => ?_)
                      refine ax_Wp.callE (f' := (107, [some (.ref 0), some (.long p0), none, some (.int p1), some (.long x58), none, none], [])) rfl rfl (w_137 (d := d + 6) hx) rfl ?_
                      refine ax_Wp.go (f' := (113, [some (.ref 0), some (.long p0), none, some (.int p1), some (.long x62), none, none], [.int p1, .ref 0, .long x62])) 4 rfl ?_
                      refine cG.sp hD (fun x63 m66 hx hD => ?_) (fun j64 m65 hx hD => ?_)
                      · refine ax_Wp.callE (f' := (116, [some (.ref 0), some (.long p0), none, some (.int p1), some (.long x62), none, none], [.long x62])) rfl rfl (w_114 (d := d + 0) hx) rfl ?_
                        refine ax_Wp.go (f' := (117, [some (.ref 0), some (.long p0), none, some (.int p1), some (.long x62), none, none], [.long x63.toInt64, .long x62])) 1 rfl ?_
                        refine bnd hD (fun x67 hx hD => ?_)
                        refine ax_Wp.callE (f' := (120, [some (.ref 0), some (.long p0), none, some (.int p1), some (.long x62), none, none], [])) rfl rfl (w_137 (d := d + 6) hx) rfl ?_
                        refine ax_Wp.go (f' := (126, [some (.ref 0), some (.long p0), none, some (.int p1), some (.long x67), none, none], [.int p1, .ref 0, .long x67])) 4 rfl ?_
                        refine cG.sp hD (fun x68 m71 hx hD => ?_) (fun j69 m70 hx hD => ?_)
                        · refine ax_Wp.callE (f' := (129, [some (.ref 0), some (.long p0), none, some (.int p1), some (.long x67), none, none], [.long x67])) rfl rfl (w_119 (d := d + 0) hx) rfl ?_
                          refine ax_Wp.go (f' := (130, [some (.ref 0), some (.long p0), none, some (.int p1), some (.long x67), none, none], [.long x68.toInt64, .long x67])) 1 rfl ?_
                          refine bnd hD (fun x72 hx hD => ?_)
                          refine ax_Wp.callE (f' := (133, [some (.ref 0), some (.long p0), none, some (.int p1), some (.long x67), none, none], [])) rfl rfl (w_137 (d := d + 6) hx) rfl ?_
                          refine ax_Wp.go (f' := (138, [some (.ref 0), some (.long p0), none, some (.int p1), some (.long x72), none, some (.int (nI 0))], [])) 3 rfl ?_
                          refine ax_Wp.dead (L := [some (.ref 0), none, none, some (.int p1), some (.long x72), none, some (.int (nI 0))]) ?_ ⟨.inl rfl, ⟨.inr ⟨rfl, trivial⟩, ⟨.inl rfl, ⟨.inl rfl, ⟨.inl rfl, ⟨.inl rfl, ⟨.inl rfl, trivial⟩⟩⟩⟩⟩⟩⟩
                          refine ax_Wp.lpD (fun (s73 : Int64 × Int32) => ((138, [some (.ref 0), none, none, some (.int p1), some (.long s73.1), none, some (.int s73.2)], []), stt m71)) ?_ hD
                          clear hD
                          intro s73 v hD ks73
                          refine ax_Wp.go (f' := (142, [some (.ref 0), none, none, some (.int p1), some (.long s73.1), none, some (.int s73.2)], [.int (nI 10), .int s73.2])) 2 rfl ?_
                          refine ax_Wp.brD hD rfl (fun _ hD => ?_) (fun _ hD => ?_)
                          · refine ax_Wp.go (f' := (168, [some (.ref 0), none, none, some (.int p1), some (.long s73.1), none, some (.int s73.2)], [.long s73.1])) 1 rfl ?_
                            obtain rfl := inj hD
                            obtain rfl := ks73.o
                            exact ax_Wp.ret rfl ⟨rfl, rfl⟩
                          · refine ax_Wp.go (f' := (151, [some (.ref 0), none, none, some (.int p1), some (.long s73.1), none, some (.int s73.2)], [.int s73.2, .int p1, .ref 0, .long s73.1])) 4 rfl ?_
                            refine cT.sp hD (fun x74 hx hD => ?_) (fun j75 hx hD => ?_)
                            · refine ax_Wp.callE (f' := (154, [some (.ref 0), none, none, some (.int p1), some (.long s73.1), none, some (.int s73.2)], [.long s73.1])) rfl rfl (w_115 (d := d + 0) hx) rfl ?_
                              refine ax_Wp.go (f' := (155, [some (.ref 0), none, none, some (.int p1), some (.long s73.1), none, some (.int s73.2)], [.long x74.toInt64, .long s73.1])) 1 rfl ?_
                              refine bnd hD (fun x77 hx hD => ?_)
                              refine ax_Wp.callE (f' := (158, [some (.ref 0), none, none, some (.int p1), some (.long s73.1), none, some (.int s73.2)], [])) rfl rfl (w_137 (d := d + 6) hx) rfl ?_
                              refine ax_Wp.go (f' := (138, [some (.ref 0), none, none, some (.int p1), some (.long x77), none, some (.int (s73.2 + (nI 1)))], [])) 3 rfl ?_
                              obtain rfl := inj hD
                              exact ks73.i
                            · obtain rfl := inj hD
                              obtain rfl := ks73.o
                              exact ax_Wp.callX (f' := (154, [some (.ref 0), none, none, some (.int p1), some (.long s73.1), none, some (.int s73.2)], [.long s73.1])) rfl rfl (w_115 (d := d + 0) hx) rfl ⟨rfl, rfl⟩
                        · obtain rfl := inj hD
                          exact ax_Wp.callX (f' := (129, [some (.ref 0), some (.long p0), none, some (.int p1), some (.long x67), none, none], [.long x67])) rfl rfl (w_119 (d := d + 0) hx) rfl ⟨rfl, rfl⟩
                      · obtain rfl := inj hD
                        exact ax_Wp.callX (f' := (116, [some (.ref 0), some (.long p0), none, some (.int p1), some (.long x62), none, none], [.long x62])) rfl rfl (w_114 (d := d + 0) hx) rfl ⟨rfl, rfl⟩
                    · obtain rfl := inj hD
                      exact ax_Wp.callX (f' := (103, [some (.ref 0), some (.long p0), none, some (.int p1), some (.long x58), none, none], [.long x58])) rfl rfl (w_113 (d := d + 0) hx) rfl ⟨rfl, rfl⟩
                  · obtain rfl := inj hD
                    exact ax_Wp.callX (f' := (90, [some (.ref 0), some (.long p0), none, some (.int p1), some (.long x54), none, none], [.long x54])) rfl rfl (w_100 (d := d + 0) hx) rfl ⟨rfl, rfl⟩
                · obtain rfl := inj hD
                  exact ax_Wp.callX (f' := (77, [some (.ref 0), some (.long p0), none, some (.int p1), some (.long x50), none, none], [.long x50])) rfl rfl (w_99 (d := d + 0) hx) rfl ⟨rfl, rfl⟩
              · obtain rfl := inj hD
                exact ax_Wp.callX (f' := (64, [some (.ref 0), some (.long p0), none, some (.int p1), some (.long x16), none, none], [.long x16])) rfl rfl (w_98 (d := d + 0) hx) rfl ⟨rfl, rfl⟩
          · obtain rfl := inj hD
            exact ax_Wp.callX (f' := (54, [some (.ref 0), some (.long p0), none, some (.int p1), some (.long x16), none, none], [])) rfl rfl (w_97 (d := d + 0) hx) rfl ⟨rfl, rfl⟩
        · obtain rfl := inj hD
          exact ax_Wp.callX (f' := (44, [some (.ref 0), some (.long p0), none, some (.int p1), some (.long x12), none, none], [.long x12])) rfl rfl (w_97 (d := d + 0) hx) rfl ⟨rfl, rfl⟩
      · obtain rfl := inj hD
        exact ax_Wp.callX (f' := (31, [some (.ref 0), some (.long p0), none, some (.int p1), some (.long x8), none, none], [.long x8])) rfl rfl (w_96 (d := d + 0) hx) rfl ⟨rfl, rfl⟩
    · obtain rfl := inj hD
      exact ax_Wp.callX (f' := (19, [some (.ref 0), some (.long p0), none, some (.int p1), some (.long x4), none, none], [.long x4])) rfl rfl (w_95 (d := d + 0) hx) rfl ⟨rfl, rfl⟩
  · obtain rfl := inj hD
    exact ax_Wp.callX (f' := (6, [some (.ref 0), some (.long p0), none, some (.int p1), none, none, none], [.long p0])) rfl rfl (w_94 (d := d + 0) hx) rfl ⟨rfl, rfl⟩
def D122 (m : dM) : Option ((Int64 ⊕ Nat) × dM) := cT (D134 m (4357 : Int64)) m (fun (x1 : Int64) => lp (β := (Int64 ⊕ Nat) × dM) 3000 (fun (s4 : Int64 × Int32) => if (rI m 2 4) ≤ s4.2 then lp (β := (Int64 × Int32) ⊕ ((Int64 ⊕ Nat) × dM)) 3000 (fun (s5 : Int64 × Int32 × dM) => if (nI 4) ≤ s5.2.1 then lp (β := (Int64 × Int32 × dM) ⊕ ((Int64 × Int32) ⊕ ((Int64 ⊕ Nat) × dM))) 3000 (fun (s6 : Int64 × Int32) => if (rI s5.2.2 10 4) ≤ s6.2 then (D84 s5.2.2).bind fun (x7 : Int32) => (D138 s6.1 x7).bind fun (x8 : Int64) => (D84 s5.2.2).bind fun (x9 : Int32) => if x9 = (nI 0) then (D120 s5.2.2).bind fun (x10 : UInt32) => (D139 x10).bind fun (x11 : Int32) => (D137 x8 x11.toInt64).bind fun (x12 : Int64) => (D121 s5.2.2).bind fun (x13 : UInt64) => (D140 x13).bind fun (x14 : Int64) => (D137 x12 x14).bind fun (x15 : Int64) => (D137 x15 ((rI s5.2.2 42 1).toInt64)).bind fun (x16 : Int64) => Option.bind (lp (β := Int64) 3000 (fun (s17 : Int64 × Int32) => if (rI s5.2.2 42 1) ≤ s17.2 then some (.inr s17.1) else (gI s5.2.2 43 60 s17.2).bind fun (x19 : Int32) => (D137 s17.1 x19.toInt64).bind fun (x20 : Int64) => some (.inl (x20, s17.2 + (nI 1)))) (x16, nI 0)) fun (v18 : Int64) => some (.inr (.inr (.inr (.inl v18, s5.2.2)))) else cT (D85 s5.2.2) s5.2.2 (fun (x21 : Int32) => (D137 x8 x21.toInt64).bind fun (x24 : Int64) => (D120 s5.2.2).bind fun (x25 : UInt32) => (D139 x25).bind fun (x26 : Int32) => (D137 x24 x26.toInt64).bind fun (x27 : Int64) => (D121 s5.2.2).bind fun (x28 : UInt64) => (D140 x28).bind fun (x29 : Int64) => (D137 x27 x29).bind fun (x30 : Int64) => (D137 x30 ((rI s5.2.2 42 1).toInt64)).bind fun (x31 : Int64) => Option.bind (lp (β := Int64) 3000 (fun (s32 : Int64 × Int32) => if (rI s5.2.2 42 1) ≤ s32.2 then some (.inr s32.1) else (gI s5.2.2 43 60 s32.2).bind fun (x34 : Int32) => (D137 s32.1 x34.toInt64).bind fun (x35 : Int64) => some (.inl (x35, s32.2 + (nI 1)))) (x31, nI 0)) fun (v33 : Int64) => some (.inr (.inr (.inr (.inl v33, s5.2.2))))) (fun (j22 : Nat) (m23 : dM) => some (.inr (.inr (.inr (.inr j22, m23))))) else cT (D136 s5.2.2 s6.1 s6.2) s5.2.2 (fun (x36 : Int64) => some (.inl (x36, s6.2 + (nI 1)))) (fun (j37 : Nat) (m38 : dM) => some (.inr (.inr (.inr (.inr j37, m38)))))) (s5.1, nI 0) else cG (D135 s5.2.2 s5.1 s5.2.1) (fun (x39 : Int64) (m42 : dM) => some (.inl (x39, s5.2.1 + (nI 1), m42))) (fun (j40 : Nat) (m41 : dM) => some (.inr (.inr (.inr j40, m41))))) (s4.1, nI 0, m) else cT (D91 m s4.2) m (fun (x43 : Int32) => (D137 s4.1 x43.toInt64).bind fun (x46 : Int64) => cT (D92 m s4.2) m (fun (x47 : Int32) => (D137 x46 x47.toInt64).bind fun (x50 : Int64) => cT (D93 m s4.2) m (fun (x51 : Int32) => (D138 x50 x51).bind fun (x54 : Int64) => some (.inl (x54, s4.2 + (nI 1)))) (fun (j52 : Nat) (m53 : dM) => some (.inr (.inr j52, m53)))) (fun (j48 : Nat) (m49 : dM) => some (.inr (.inr j48, m49)))) (fun (j44 : Nat) (m45 : dM) => some (.inr (.inr j44, m45)))) (x1, nI 0)) (fun (j2 : Nat) (m3 : dM) => some (.inr j2, m3))
set_option maxRecDepth 20000 in
theorem w_122 {X : Nat × (Nat → Int32)} {d : Nat} {m : dM} {r : (Int64 ⊕ Nat) × dM} (hD : D122 m = some r) : ax_Ev X (d + 9) 122 [.ref 0] (stt m) (oT (fun x => some (.long x)) r.1) (stt r.2) := by
  unfold D122 at hD
  show ax_Wp X (d + 8 + 1) 122 (0, [some (.ref 0), none, none, none], []) (stt m) _
  refine ax_Wp.go (f' := (4, [some (.ref 0), none, none, none], [.long (4357 : Int64), .ref 0])) 2 rfl ?_
  refine cT.sp hD (fun x1 hx hD => ?_) (fun j2 hx hD => ?_)
  · refine ax_Wp.callE (f' := (7, [some (.ref 0), none, none, none], [])) rfl rfl (w_134 (d := d + 0) hx) rfl ?_
    refine ax_Wp.go (f' := (10, [some (.ref 0), some (.long x1), none, some (.int (nI 0))], [])) 3 rfl ?_
    refine ax_Wp.lpD (fun (s4 : Int64 × Int32) => ((10, [some (.ref 0), some (.long s4.1), none, some (.int s4.2)], []), stt m)) ?_ hD
    clear hD
    intro s4 v hD ks4
    refine ax_Wp.go (f' := (21, [some (.ref 0), some (.long s4.1), none, some (.int s4.2)], [.int (rI m 2 4), .int s4.2])) 5 rfl ?_
    refine ax_Wp.brD hD rfl (fun _ hD => ?_) (fun _ hD => ?_)
    · refine ax_Wp.go (f' := (64, [some (.ref 0), some (.long s4.1), none, some (.int (nI 0))], [])) 2 rfl ?_
      refine ax_Wp.lpD (fun (s5 : Int64 × Int32 × dM) => ((64, [some (.ref 0), some (.long s5.1), none, some (.int s5.2.1)], []), stt s5.2.2)) ?_ hD
      clear hD
      intro s5 v hD ks5
      refine ax_Wp.go (f' := (66, [some (.ref 0), some (.long s5.1), none, some (.int s5.2.1)], [.int (nI 4), .int s5.2.1])) 2 rfl ?_
      refine ax_Wp.brD hD rfl (fun _ hD => ?_) (fun _ hD => ?_)
      · refine ax_Wp.go (f' := (84, [some (.ref 0), some (.long s5.1), none, some (.int (nI 0))], [])) 2 rfl ?_
        refine ax_Wp.lpD (fun (s6 : Int64 × Int32) => ((84, [some (.ref 0), some (.long s6.1), none, some (.int s6.2)], []), stt s5.2.2)) ?_ hD
        clear hD
        intro s6 v hD ks6
        refine ax_Wp.go (f' := (95, [some (.ref 0), some (.long s6.1), none, some (.int s6.2)], [.int (rI s5.2.2 10 4), .int s6.2])) 5 rfl ?_
        refine ax_Wp.brD hD rfl (fun _ hD => ?_) (fun _ hD => ?_)
        · refine ax_Wp.go (f' := (113, [some (.ref 0), some (.long s6.1), none, some (.int s6.2)], [.ref 0, .long s6.1])) 2 rfl ?_
          refine bnd hD (fun x7 hx hD => ?_)
          refine ax_Wp.callE (f' := (116, [some (.ref 0), some (.long s6.1), none, some (.int s6.2)], [.long s6.1])) rfl rfl (w_84 (d := d + 7) hx) rfl ?_
          refine bnd hD (fun x8 hx hD => ?_)
          refine ax_Wp.callE (f' := (119, [some (.ref 0), some (.long s6.1), none, some (.int s6.2)], [])) rfl rfl (w_138 (d := d + 6) hx) rfl ?_
          refine ax_Wp.go (f' := (121, [some (.ref 0), some (.long x8), none, some (.int s6.2)], [.ref 0])) 2 rfl ?_
          refine bnd hD (fun x9 hx hD => ?_)
          refine ax_Wp.callE (f' := (124, [some (.ref 0), some (.long x8), none, some (.int s6.2)], [])) rfl rfl (w_84 (d := d + 7) hx) rfl ?_
          refine ax_Wp.brD hD rfl (fun _ hD => ?_) (fun _ hD => ?_)
          · refine ax_Wp.go (f' := (139, [some (.ref 0), some (.long x8), none, some (.int s6.2)], [.ref 0, .long x8])) 2 rfl ?_
            refine bnd hD (fun x10 hx hD => ?_)
            refine ax_Wp.callE (f' := (142, [some (.ref 0), some (.long x8), none, some (.int s6.2)], [.long x8])) rfl rfl (w_120 (d := d + 6) hx) rfl ?_
            refine bnd hD (fun x11 hx hD => ?_)
            refine ax_Wp.callE (f' := (145, [some (.ref 0), some (.long x8), none, some (.int s6.2)], [.long x8])) rfl rfl (w_139 (d := d + 7) hx) rfl ?_
            refine ax_Wp.go (f' := (146, [some (.ref 0), some (.long x8), none, some (.int s6.2)], [.long x11.toInt64, .long x8])) 1 rfl ?_
            refine bnd hD (fun x12 hx hD => ?_)
            refine ax_Wp.callE (f' := (149, [some (.ref 0), some (.long x8), none, some (.int s6.2)], [])) rfl rfl (w_137 (d := d + 7) hx) rfl ?_
            refine ax_Wp.go (f' := (152, [some (.ref 0), some (.long x12), none, some (.int s6.2)], [.ref 0, .long x12])) 3 rfl ?_
            refine bnd hD (fun x13 hx hD => ?_)
            refine ax_Wp.callE (f' := (155, [some (.ref 0), some (.long x12), none, some (.int s6.2)], [.long x12])) rfl rfl (w_121 (d := d + 6) hx) rfl ?_
            refine bnd hD (fun x14 hx hD => ?_)
            refine ax_Wp.callE (f' := (158, [some (.ref 0), some (.long x12), none, some (.int s6.2)], [.long x12])) rfl rfl (w_140 (d := d + 7) hx) rfl ?_
            refine bnd hD (fun x15 hx hD => ?_)
            refine ax_Wp.callE (f' := (161, [some (.ref 0), some (.long x12), none, some (.int s6.2)], [])) rfl rfl (w_137 (d := d + 7) hx) rfl ?_
            refine ax_Wp.go (f' := (171, [some (.ref 0), some (.long x15), none, some (.int s6.2)], [.long ((rI s5.2.2 42 1).toInt64), .long x15])) 6 rfl ?_
            refine bnd hD (fun x16 hx hD => ?_)
            refine ax_Wp.callE (f' := (174, [some (.ref 0), some (.long x15), none, some (.int s6.2)], [])) rfl rfl (w_137 (d := d + 7) hx) rfl ?_
            refine ax_Wp.go (f' := (177, [some (.ref 0), some (.long x16), none, some (.int (nI 0))], [])) 3 rfl ?_
            refine bnd hD (fun v18 hx hD => ?_)
            refine ax_Wp.jn (F := (209, [some (.ref 0), some (.long v18), none, none], [])) (hh := stt s5.2.2) ?_ (fun kkv18 => ?_)
            · refine ax_Wp.go (f' := (210, [some (.ref 0), some (.long v18), none, none], [.long v18])) 1 rfl ?_
              obtain rfl := inj hD
              obtain rfl := ks6.o
              obtain rfl := ks5.o
              obtain rfl := ks4.o
              exact ax_Wp.ret rfl ⟨rfl, rfl⟩
            clear hD
            refine ax_Wp.lpD (fun (s17 : Int64 × Int32) => ((177, [some (.ref 0), some (.long s17.1), none, some (.int s17.2)], []), stt s5.2.2)) ?_ hx
            clear hx
            intro s17 v hD ks17
            refine ax_Wp.go (f' := (185, [some (.ref 0), some (.long s17.1), none, some (.int s17.2)], [.int (rI s5.2.2 42 1), .int s17.2])) 4 rfl ?_
            refine ax_Wp.brD hD rfl (fun _ hD => ?_) (fun _ hD => ?_)
            · obtain rfl := inj hD
              obtain rfl := ks17.o
              exact ax_Wp.dead kkv18 ⟨.inl rfl, ⟨.inl rfl, ⟨.inl rfl, ⟨.inr ⟨rfl, trivial⟩, trivial⟩⟩⟩⟩
            · refine ax_Wp.go (f' := (197, [some (.ref 0), some (.long s17.1), none, some (.int s17.2)], [.int s17.2, .ref 43, .long s17.1])) 5 rfl ?_
              refine ax_Wp.rdI hD rfl rfl rfl (fun x19 hD => ?_)
              refine ax_Wp.go (f' := (199, [some (.ref 0), some (.long s17.1), none, some (.int s17.2)], [.long x19.toInt64, .long s17.1])) 1 rfl ?_
              refine bnd hD (fun x20 hx hD => ?_)
              refine ax_Wp.callE (f' := (202, [some (.ref 0), some (.long s17.1), none, some (.int s17.2)], [])) rfl rfl (w_137 (d := d + 7) hx) rfl ?_
              refine ax_Wp.go (f' := (177, [some (.ref 0), some (.long x20), none, some (.int (s17.2 + (nI 1)))], [])) 3 rfl ?_
              obtain rfl := inj hD
              exact ks17.i
          · refine ax_Wp.go (f' := (129, [some (.ref 0), some (.long x8), none, some (.int s6.2)], [.ref 0, .long x8])) 2 rfl ?_
            refine cT.sp hD (fun x21 hx hD => ?_) (fun j22 hx hD => ?_)
            · refine ax_Wp.callE (f' := (132, [some (.ref 0), some (.long x8), none, some (.int s6.2)], [.long x8])) rfl rfl (w_85 (d := d + 2) hx) rfl ?_
              refine ax_Wp.go (f' := (133, [some (.ref 0), some (.long x8), none, some (.int s6.2)], [.long x21.toInt64, .long x8])) 1 rfl ?_
              refine bnd hD (fun x24 hx hD => ?_)
              refine ax_Wp.callE (f' := (136, [some (.ref 0), some (.long x8), none, some (.int s6.2)], [])) rfl rfl (w_137 (d := d + 7) hx) rfl ?_
              refine ax_Wp.go (f' := (139, [some (.ref 0), some (.long x24), none, some (.int s6.2)], [.ref 0, .long x24])) 3 rfl ?_
              refine bnd hD (fun x25 hx hD => ?_)
              refine ax_Wp.callE (f' := (142, [some (.ref 0), some (.long x24), none, some (.int s6.2)], [.long x24])) rfl rfl (w_120 (d := d + 6) hx) rfl ?_
              refine bnd hD (fun x26 hx hD => ?_)
              refine ax_Wp.callE (f' := (145, [some (.ref 0), some (.long x24), none, some (.int s6.2)], [.long x24])) rfl rfl (w_139 (d := d + 7) hx) rfl ?_
              refine ax_Wp.go (f' := (146, [some (.ref 0), some (.long x24), none, some (.int s6.2)], [.long x26.toInt64, .long x24])) 1 rfl ?_
              refine bnd hD (fun x27 hx hD => ?_)
              refine ax_Wp.callE (f' := (149, [some (.ref 0), some (.long x24), none, some (.int s6.2)], [])) rfl rfl (w_137 (d := d + 7) hx) rfl ?_
              refine ax_Wp.go (f' := (152, [some (.ref 0), some (.long x27), none, some (.int s6.2)], [.ref 0, .long x27])) 3 rfl ?_
              refine bnd hD (fun x28 hx hD => ?_)
              refine ax_Wp.callE (f' := (155, [some (.ref 0), some (.long x27), none, some (.int s6.2)], [.long x27])) rfl rfl (w_121 (d := d + 6) hx) rfl ?_
              refine bnd hD (fun x29 hx hD => ?_)
              refine ax_Wp.callE (f' := (158, [some (.ref 0), some (.long x27), none, some (.int s6.2)], [.long x27])) rfl rfl (w_140 (d := d + 7) hx) rfl ?_
              refine bnd hD (fun x30 hx hD => ?_)
              refine ax_Wp.callE (f' := (161, [some (.ref 0), some (.long x27), none, some (.int s6.2)], [])) rfl rfl (w_137 (d := d + 7) hx) rfl ?_
              refine ax_Wp.go (f' := (171, [some (.ref 0), some (.long x30), none, some (.int s6.2)], [.long ((rI s5.2.2 42 1).toInt64), .long x30])) 6 rfl ?_
              refine bnd hD (fun x31 hx hD => ?_)
              refine ax_Wp.callE (f' := (174, [some (.ref 0), some (.long x30), none, some (.int s6.2)], [])) rfl rfl (w_137 (d := d + 7) hx) rfl ?_
              refine ax_Wp.go (f' := (177, [some (.ref 0), some (.long x31), none, some (.int (nI 0))], [])) 3 rfl ?_
              refine bnd hD (fun v33 hx hD => ?_)
              refine ax_Wp.jn (F := (209, [some (.ref 0), some (.long v33), none, none], [])) (hh := stt s5.2.2) ?_ (fun kkv33 => ?_)
              · refine ax_Wp.go (f' := (210, [some (.ref 0), some (.long v33), none, none], [.long v33])) 1 rfl ?_
                obtain rfl := inj hD
                obtain rfl := ks6.o
                obtain rfl := ks5.o
                obtain rfl := ks4.o
                exact ax_Wp.ret rfl ⟨rfl, rfl⟩
              clear hD
              refine ax_Wp.lpD (fun (s32 : Int64 × Int32) => ((177, [some (.ref 0), some (.long s32.1), none, some (.int s32.2)], []), stt s5.2.2)) ?_ hx
              clear hx
              intro s32 v hD ks32
              refine ax_Wp.go (f' := (185, [some (.ref 0), some (.long s32.1), none, some (.int s32.2)], [.int (rI s5.2.2 42 1), .int s32.2])) 4 rfl ?_
              refine ax_Wp.brD hD rfl (fun _ hD => ?_) (fun _ hD => ?_)
              · obtain rfl := inj hD
                obtain rfl := ks32.o
                exact ax_Wp.dead kkv33 ⟨.inl rfl, ⟨.inl rfl, ⟨.inl rfl, ⟨.inr ⟨rfl, trivial⟩, trivial⟩⟩⟩⟩
              · refine ax_Wp.go (f' := (197, [some (.ref 0), some (.long s32.1), none, some (.int s32.2)], [.int s32.2, .ref 43, .long s32.1])) 5 rfl ?_
                refine ax_Wp.rdI hD rfl rfl rfl (fun x34 hD => ?_)
                refine ax_Wp.go (f' := (199, [some (.ref 0), some (.long s32.1), none, some (.int s32.2)], [.long x34.toInt64, .long s32.1])) 1 rfl ?_
                refine bnd hD (fun x35 hx hD => ?_)
                refine ax_Wp.callE (f' := (202, [some (.ref 0), some (.long s32.1), none, some (.int s32.2)], [])) rfl rfl (w_137 (d := d + 7) hx) rfl ?_
                refine ax_Wp.go (f' := (177, [some (.ref 0), some (.long x35), none, some (.int (s32.2 + (nI 1)))], [])) 3 rfl ?_
                obtain rfl := inj hD
                exact ks32.i
            · obtain rfl := inj hD
              obtain rfl := ks6.o
              obtain rfl := ks5.o
              obtain rfl := ks4.o
              exact ax_Wp.callX (f' := (132, [some (.ref 0), some (.long x8), none, some (.int s6.2)], [.long x8])) rfl rfl (w_85 (d := d + 2) hx) rfl ⟨rfl, rfl⟩
        · refine ax_Wp.go (f' := (101, [some (.ref 0), some (.long s6.1), none, some (.int s6.2)], [.int s6.2, .long s6.1, .ref 0])) 3 rfl ?_
          refine cT.sp hD (fun x36 hx hD => ?_) (fun j37 hx hD => ?_)
          · refine ax_Wp.callE (f' := (104, [some (.ref 0), some (.long s6.1), none, some (.int s6.2)], [])) rfl rfl (w_136 (d := d + 0) hx) rfl ?_
            refine ax_Wp.go (f' := (84, [some (.ref 0), some (.long x36), none, some (.int (s6.2 + (nI 1)))], [])) 3 rfl ?_
            obtain rfl := inj hD
            exact ks6.i
          · obtain rfl := inj hD
            obtain rfl := ks6.o
            obtain rfl := ks5.o
            obtain rfl := ks4.o
            exact ax_Wp.callX (f' := (104, [some (.ref 0), some (.long s6.1), none, some (.int s6.2)], [])) rfl rfl (w_136 (d := d + 0) hx) rfl ⟨rfl, rfl⟩
      · refine ax_Wp.go (f' := (72, [some (.ref 0), some (.long s5.1), none, some (.int s5.2.1)], [.int s5.2.1, .long s5.1, .ref 0])) 3 rfl ?_
        refine cG.sp hD (fun x39 m42 hx hD => ?_) (fun j40 m41 hx hD => ?_)
        · refine ax_Wp.callE (f' := (75, [some (.ref 0), some (.long s5.1), none, some (.int s5.2.1)], [])) rfl rfl (w_135 (d := d + 0) hx) rfl ?_
          refine ax_Wp.go (f' := (64, [some (.ref 0), some (.long x39), none, some (.int (s5.2.1 + (nI 1)))], [])) 3 rfl ?_
          obtain rfl := inj hD
          exact ks5.i
        · obtain rfl := inj hD
          obtain rfl := ks5.o
          obtain rfl := ks4.o
          exact ax_Wp.callX (f' := (75, [some (.ref 0), some (.long s5.1), none, some (.int s5.2.1)], [])) rfl rfl (w_135 (d := d + 0) hx) rfl ⟨rfl, rfl⟩
    · refine ax_Wp.go (f' := (27, [some (.ref 0), some (.long s4.1), none, some (.int s4.2)], [.int s4.2, .ref 0, .long s4.1])) 3 rfl ?_
      refine cT.sp hD (fun x43 hx hD => ?_) (fun j44 hx hD => ?_)
      · refine ax_Wp.callE (f' := (30, [some (.ref 0), some (.long s4.1), none, some (.int s4.2)], [.long s4.1])) rfl rfl (w_91 (d := d + 1) hx) rfl ?_
        refine ax_Wp.go (f' := (31, [some (.ref 0), some (.long s4.1), none, some (.int s4.2)], [.long x43.toInt64, .long s4.1])) 1 rfl ?_
        refine bnd hD (fun x46 hx hD => ?_)
        refine ax_Wp.callE (f' := (34, [some (.ref 0), some (.long s4.1), none, some (.int s4.2)], [])) rfl rfl (w_137 (d := d + 7) hx) rfl ?_
        refine ax_Wp.go (f' := (38, [some (.ref 0), some (.long x46), none, some (.int s4.2)], [.int s4.2, .ref 0, .long x46])) 4 rfl ?_
        refine cT.sp hD (fun x47 hx hD => ?_) (fun j48 hx hD => ?_)
        · refine ax_Wp.callE (f' := (41, [some (.ref 0), some (.long x46), none, some (.int s4.2)], [.long x46])) rfl rfl (w_92 (d := d + 1) hx) rfl ?_
          refine ax_Wp.go (f' := (42, [some (.ref 0), some (.long x46), none, some (.int s4.2)], [.long x47.toInt64, .long x46])) 1 rfl ?_
          refine bnd hD (fun x50 hx hD => ?_)
          refine ax_Wp.callE (f' := (45, [some (.ref 0), some (.long x46), none, some (.int s4.2)], [])) rfl rfl (w_137 (d := d + 7) hx) rfl ?_
          refine ax_Wp.go (f' := (49, [some (.ref 0), some (.long x50), none, some (.int s4.2)], [.int s4.2, .ref 0, .long x50])) 4 rfl ?_
          refine cT.sp hD (fun x51 hx hD => ?_) (fun j52 hx hD => ?_)
          · refine ax_Wp.callE (f' := (52, [some (.ref 0), some (.long x50), none, some (.int s4.2)], [.long x50])) rfl rfl (w_93 (d := d + 1) hx) rfl ?_
            refine bnd hD (fun x54 hx hD => ?_)
            refine ax_Wp.callE (f' := (55, [some (.ref 0), some (.long x50), none, some (.int s4.2)], [])) rfl rfl (w_138 (d := d + 6) hx) rfl ?_
            refine ax_Wp.go (f' := (10, [some (.ref 0), some (.long x54), none, some (.int (s4.2 + (nI 1)))], [])) 3 rfl ?_
            obtain rfl := inj hD
            exact ks4.i
          · obtain rfl := inj hD
            obtain rfl := ks4.o
            exact ax_Wp.callX (f' := (52, [some (.ref 0), some (.long x50), none, some (.int s4.2)], [.long x50])) rfl rfl (w_93 (d := d + 1) hx) rfl ⟨rfl, rfl⟩
        · obtain rfl := inj hD
          obtain rfl := ks4.o
          exact ax_Wp.callX (f' := (41, [some (.ref 0), some (.long x46), none, some (.int s4.2)], [.long x46])) rfl rfl (w_92 (d := d + 1) hx) rfl ⟨rfl, rfl⟩
      · obtain rfl := inj hD
        obtain rfl := ks4.o
        exact ax_Wp.callX (f' := (30, [some (.ref 0), some (.long s4.1), none, some (.int s4.2)], [.long s4.1])) rfl rfl (w_91 (d := d + 1) hx) rfl ⟨rfl, rfl⟩
  · obtain rfl := inj hD
    exact ax_Wp.callX (f' := (7, [some (.ref 0), none, none, none], [])) rfl rfl (w_134 (d := d + 0) hx) rfl ⟨rfl, rfl⟩
