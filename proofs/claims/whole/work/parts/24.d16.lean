/-! WHAT METHODS DO, printed of their bytecode: 16 -/
def D242 (m : dM) (p0 : Int64) : Option (dM) := (fL m 130 13 (((31 : Int64) * (rL m 130 13)) + p0)).bind fun (m1 : dM) => some m1
set_option maxRecDepth 20000 in
theorem w_242 {X : Nat × (Nat → Int32)} {d : Nat} {m : dM} {p0 : Int64} {r : dM} (hD : D242 m p0 = some r) : ax_Ev X (d + 1) 242 [.ref 130, .long p0] (stt m) (.inl none) (stt r) := by
  unfold D242 at hD
  show ax_Wp X (d + 0 + 1) 242 (0, [some (.ref 130), some (.long p0), none], []) (stt m) _
  refine ax_Wp.go (f' := (11, [some (.ref 130), some (.long p0), none], [.long (((31 : Int64) * (rL m 130 13)) + p0), .ref 130])) 7 rfl ?_
  refine ax_Wp.ptL hD rfl rfl rfl (fun m1 hD => ?_)
  obtain rfl := inj hD
  exact ax_Wp.ret rfl ⟨rfl, rfl⟩
def D243 (m : dM) (p0 : Int32) : Option (dM) := Option.bind ((if p0 = (nI 0) then some (0 : Int64) else some (1 : Int64)) : Option (Int64)) fun (v1 : Int64) => (D242 m v1).bind fun (r2 : dM) => some r2
set_option maxRecDepth 20000 in
theorem w_243 {X : Nat × (Nat → Int32)} {d : Nat} {m : dM} {p0 : Int32} {r : dM} (hD : D243 m p0 = some r) : ax_Ev X (d + 2) 243 [.ref 130, .int p0] (stt m) (.inl none) (stt r) := by
  unfold D243 at hD
  show ax_Wp X (d + 1 + 1) 243 (0, [some (.ref 130), some (.int p0)], []) (stt m) _
  refine ax_Wp.go (f' := (2, [some (.ref 130), some (.int p0)], [.int p0, .ref 130])) 2 rfl ?_
  refine bnd hD (fun v1 hx hD => ?_)
  refine ax_Wp.jn (F := (10, [some (.ref 130), none], [.long v1, .ref 130])) (hh := stt m) ?_ (fun kkv1 => ?_)
  · refine bnd hD (fun r2 hx hD => ?_)
    refine ax_Wp.callE (f' := (13, [some (.ref 130), none], [])) rfl rfl (w_242 (d := d + 0) hx) rfl ?_
    obtain rfl := inj hD
    exact ax_Wp.ret rfl ⟨rfl, rfl⟩
  clear hD
  have hD := hx
  clear hx
  refine ax_Wp.brD hD rfl (fun _ hD => ?_) (fun _ hD => ?_)
  · refine ax_Wp.go (f' := (10, [some (.ref 130), some (.int p0)], [.long (0 : Int64), .ref 130])) 1 rfl ?_
    obtain rfl := inj hD
    exact ax_Wp.dead kkv1 ⟨.inl rfl, ⟨.inr ⟨rfl, trivial⟩, trivial⟩⟩
  · refine ax_Wp.go (f' := (10, [some (.ref 130), some (.int p0)], [.long (1 : Int64), .ref 130])) 2 rfl ?_
    obtain rfl := inj hD
    exact ax_Wp.dead kkv1 ⟨.inl rfl, ⟨.inr ⟨rfl, trivial⟩, trivial⟩⟩
def D241 (p0 : UInt64) (p1 : Int32) (p2 : Int32) : Option (Int64) := if (Op.cmpValue (FP.dcmp p0 FP.dconst0) .l) = (nI 0) then some (0 : Int64) else Option.bind (lp (β := UInt64 × Int32) 3000 (fun (s1 : UInt64 × Int32) => if (Op.cmpValue (FP.dcmp s1.1 (4611686018427387904 : UInt64)) .l) < (nI 0) then some (.inr (s1.1, s1.2)) else (gD (FP.ddiv s1.1 (4611686018427387904 : UInt64))).bind fun (x3 : UInt64) => some (.inl (x3, s1.2 + (nI 1)))) (p0, p2)) fun (v2 : UInt64 × Int32) => Option.bind (lp (β := UInt64 × Int32) 3000 (fun (s4 : UInt64 × Int32) => if (nI 0) ≤ (Op.cmpValue (FP.dcmp s4.1 FP.dconst1) .g) then some (.inr (s4.1, s4.2)) else (gD (FP.dmul s4.1 (4611686018427387904 : UInt64))).bind fun (x6 : UInt64) => (kD s4.2).bind fun (x7 : Int32) => some (.inl (x6, x7))) (v2.1, v2.2)) fun (v5 : UInt64 × Int32) => (gD (FP.dsub v5.1 FP.dconst1)).bind fun (x8 : UInt64) => Option.bind (lp (β := Int64) 3000 (fun (s9 : UInt64 × Int64 × Int32) => if p1 ≤ s9.2.2 then some (.inr s9.2.1) else (gD (FP.dmul s9.1 (4611686018427387904 : UInt64))).bind fun (x11 : UInt64) => Option.bind ((if (Op.cmpValue (FP.dcmp x11 FP.dconst1) .l) < (nI 0) then some (0 : Int64) else some (1 : Int64)) : Option (Int64)) fun (v12 : Int64) => (gD (FP.dsub x11 (FP.l2d v12))).bind fun (x13 : UInt64) => some (.inl (x13, ((2 : Int64) * s9.2.1) + v12, s9.2.2 + (nI 1)))) (x8, v5.2.toInt64, nI 0)) fun (v10 : Int64) => some v10
set_option maxRecDepth 20000 in
theorem w_241 {X : Nat × (Nat → Int32)} {d : Nat} {m : dM} {p0 : UInt64} {p1 : Int32} {p2 : Int32} {r : Int64} (hD : D241 p0 p1 p2 = some r) : ax_Ev X (d + 1) 241 [.double p0, .int p1, .int p2] (stt m) (.inl (some (.long r))) (stt m) := by
  unfold D241 at hD
  show ax_Wp X (d + 0 + 1) 241 (0, [some (.double p0), none, some (.int p1), some (.int p2), none, none, none, none, none, none, none, none, none, none], []) (stt m) _
  refine ax_Wp.go (f' := (3, [some (.double p0), none, some (.int p1), some (.int p2), none, none, none, none, none, none, none, none, none, none], [.int (Op.cmpValue (FP.dcmp p0 FP.dconst0) .l)])) 3 rfl ?_
  refine ax_Wp.brD hD rfl (fun _ hD => ?_) (fun _ hD => ?_)
  · refine ax_Wp.go (f' := (7, [some (.double p0), none, some (.int p1), some (.int p2), none, none, none, none, none, none, none, none, none, none], [.long (0 : Int64)])) 1 rfl ?_
    obtain rfl := inj hD
    exact ax_Wp.ret rfl ⟨rfl, rfl⟩
  · refine ax_Wp.go (f' := (14, [some (.double p0), none, some (.int p1), some (.int p2), some (.double p0), none, some (.int p2), none, none, none, none, none, none, none], [])) 4 rfl ?_
    refine bnd hD (fun v2 hx hD => ?_)
    refine ax_Wp.jn (F := (37, [none, none, some (.int p1), none, some (.double v2.1), none, some (.int v2.2), none, none, none, none, none, none, none], [])) (hh := stt m) ?_ (fun kkv2 => ?_)
    · refine bnd hD (fun v5 hx hD => ?_)
      refine ax_Wp.jn (F := (58, [none, none, some (.int p1), none, some (.double v5.1), none, some (.int v5.2), none, none, none, none, none, none, none], [])) (hh := stt m) ?_ (fun kkv5 => ?_)
      · refine ax_Wp.go (f' := (61, [none, none, some (.int p1), none, some (.double v5.1), none, some (.int v5.2), none, none, none, none, none, none, none], [.double FP.dconst1, .double v5.1])) 2 rfl ?_
        refine ax_Wp.flD hD rfl (fun x8 hD => ?_)
        refine ax_Wp.go (f' := (72, [none, none, some (.int p1), none, some (.double v5.1), none, some (.int v5.2), some (.double x8), none, some (.long v5.2.toInt64), none, some (.int (nI 0)), none, none], [])) 6 rfl ?_
        refine bnd hD (fun v10 hx hD => ?_)
        refine ax_Wp.jn (F := (125, [none, none, none, none, none, none, none, none, none, some (.long v10), none, none, none, none], [])) (hh := stt m) ?_ (fun kkv10 => ?_)
        · refine ax_Wp.go (f' := (127, [none, none, none, none, none, none, none, none, none, some (.long v10), none, none, none, none], [.long v10])) 1 rfl ?_
          obtain rfl := inj hD
          exact ax_Wp.ret rfl ⟨rfl, rfl⟩
        clear hD
        refine ax_Wp.dead (L := [none, none, some (.int p1), none, none, none, none, some (.double x8), none, some (.long v5.2.toInt64), none, some (.int (nI 0)), none, none]) ?_ ⟨.inl rfl, ⟨.inl rfl, ⟨.inl rfl, ⟨.inl rfl, ⟨.inr ⟨rfl, trivial⟩, ⟨.inl rfl, ⟨.inr ⟨rfl, trivial⟩, ⟨.inl rfl, ⟨.inl rfl, ⟨.inl rfl, ⟨.inl rfl, ⟨.inl rfl, ⟨.inl rfl, ⟨.inl rfl, trivial⟩⟩⟩⟩⟩⟩⟩⟩⟩⟩⟩⟩⟩⟩
        refine ax_Wp.lpD (fun (s9 : UInt64 × Int64 × Int32) => ((72, [none, none, some (.int p1), none, none, none, none, some (.double s9.1), none, some (.long s9.2.1), none, some (.int s9.2.2), none, none], []), stt m)) ?_ hx
        clear hx
        intro s9 v hD ks9
        refine ax_Wp.go (f' := (75, [none, none, some (.int p1), none, none, none, none, some (.double s9.1), none, some (.long s9.2.1), none, some (.int s9.2.2), none, none], [.int p1, .int s9.2.2])) 2 rfl ?_
        refine ax_Wp.brD hD rfl (fun _ hD => ?_) (fun _ hD => ?_)
        · obtain rfl := inj hD
          obtain rfl := ks9.o
          exact ax_Wp.dead kkv10 ⟨.inl rfl, ⟨.inl rfl, ⟨.inr ⟨rfl, trivial⟩, ⟨.inl rfl, ⟨.inl rfl, ⟨.inl rfl, ⟨.inl rfl, ⟨.inr ⟨rfl, trivial⟩, ⟨.inl rfl, ⟨.inl rfl, ⟨.inl rfl, ⟨.inr ⟨rfl, trivial⟩, ⟨.inl rfl, ⟨.inl rfl, trivial⟩⟩⟩⟩⟩⟩⟩⟩⟩⟩⟩⟩⟩⟩
        · refine ax_Wp.go (f' := (83, [none, none, some (.int p1), none, none, none, none, some (.double s9.1), none, some (.long s9.2.1), none, some (.int s9.2.2), none, none], [.double (4611686018427387904 : UInt64), .double s9.1])) 2 rfl ?_
          refine ax_Wp.flD hD rfl (fun x11 hD => ?_)
          refine ax_Wp.go (f' := (90, [none, none, some (.int p1), none, none, none, none, some (.double x11), none, some (.long s9.2.1), none, some (.int s9.2.2), none, none], [.int (Op.cmpValue (FP.dcmp x11 FP.dconst1) .l)])) 4 rfl ?_
          refine bnd hD (fun v12 hx hD => ?_)
          refine ax_Wp.jn (F := (98, [none, none, some (.int p1), none, none, none, none, some (.double x11), none, some (.long s9.2.1), none, some (.int s9.2.2), none, none], [.long v12])) (hh := stt m) ?_ (fun kkv12 => ?_)
          · refine ax_Wp.go (f' := (105, [none, none, some (.int p1), none, none, none, none, some (.double x11), none, some (.long s9.2.1), none, some (.int s9.2.2), some (.long v12), none], [.double (FP.l2d v12), .double x11])) 4 rfl ?_
            refine ax_Wp.flD hD rfl (fun x13 hD => ?_)
            refine ax_Wp.go (f' := (72, [none, none, some (.int p1), none, none, none, none, some (.double x13), none, some (.long (((2 : Int64) * s9.2.1) + v12)), none, some (.int (s9.2.2 + (nI 1))), some (.long v12), none], [])) 9 rfl ?_
            obtain rfl := inj hD
            exact ax_Wp.dead ks9.i ⟨.inl rfl, ⟨.inl rfl, ⟨.inl rfl, ⟨.inl rfl, ⟨.inl rfl, ⟨.inl rfl, ⟨.inl rfl, ⟨.inl rfl, ⟨.inl rfl, ⟨.inl rfl, ⟨.inl rfl, ⟨.inl rfl, ⟨.inr ⟨rfl, trivial⟩, ⟨.inl rfl, trivial⟩⟩⟩⟩⟩⟩⟩⟩⟩⟩⟩⟩⟩⟩
          clear hD
          have hD := hx
          clear hx
          refine ax_Wp.brD hD rfl (fun _ hD => ?_) (fun _ hD => ?_)
          · refine ax_Wp.go (f' := (98, [none, none, some (.int p1), none, none, none, none, some (.double x11), none, some (.long s9.2.1), none, some (.int s9.2.2), none, none], [.long (0 : Int64)])) 1 rfl ?_
            obtain rfl := inj hD
            exact kkv12
          · refine ax_Wp.go (f' := (98, [none, none, some (.int p1), none, none, none, none, some (.double x11), none, some (.long s9.2.1), none, some (.int s9.2.2), none, none], [.long (1 : Int64)])) 2 rfl ?_
            obtain rfl := inj hD
            exact kkv12
      clear hD
      refine ax_Wp.lpD (fun (s4 : UInt64 × Int32) => ((37, [none, none, some (.int p1), none, some (.double s4.1), none, some (.int s4.2), none, none, none, none, none, none, none], []), stt m)) ?_ hx
      clear hx
      intro s4 v hD ks4
      refine ax_Wp.go (f' := (41, [none, none, some (.int p1), none, some (.double s4.1), none, some (.int s4.2), none, none, none, none, none, none, none], [.int (Op.cmpValue (FP.dcmp s4.1 FP.dconst1) .g)])) 3 rfl ?_
      refine ax_Wp.brD hD rfl (fun _ hD => ?_) (fun _ hD => ?_)
      · obtain rfl := inj hD
        obtain rfl := ks4.o
        exact kkv5
      · refine ax_Wp.go (f' := (49, [none, none, some (.int p1), none, some (.double s4.1), none, some (.int s4.2), none, none, none, none, none, none, none], [.double (4611686018427387904 : UInt64), .double s4.1])) 2 rfl ?_
        refine ax_Wp.flD hD rfl (fun x6 hD => ?_)
        refine ax_Wp.go (f' := (52, [none, none, some (.int p1), none, some (.double x6), none, some (.int s4.2), none, none, none, none, none, none, none], [])) 1 rfl ?_
        refine bnd hD (fun x7 hx hD => ?_)
        refine ax_Wp.go (f' := (55, [none, none, some (.int p1), none, some (.double x6), none, some (.int (s4.2 + Int32.ofInt (-1))), none, none, none, none, none, none, none], [])) 1 rfl ?_
        refine ax_Wp.fr (f' := (55, [none, none, some (.int p1), none, some (.double x6), none, some (.int x7), none, none, none, none, none, none, none], [])) (by rw [← inj (a := s4.2 + Int32.ofInt (-1)) hx]) ?_
        refine ax_Wp.go (f' := (37, [none, none, some (.int p1), none, some (.double x6), none, some (.int x7), none, none, none, none, none, none, none], [])) 1 rfl ?_
        obtain rfl := inj hD
        exact ks4.i
    clear hD
    refine ax_Wp.dead (L := [none, none, some (.int p1), none, some (.double p0), none, some (.int p2), none, none, none, none, none, none, none]) ?_ ⟨.inr ⟨rfl, trivial⟩, ⟨.inl rfl, ⟨.inl rfl, ⟨.inr ⟨rfl, trivial⟩, ⟨.inl rfl, ⟨.inl rfl, ⟨.inl rfl, ⟨.inl rfl, ⟨.inl rfl, ⟨.inl rfl, ⟨.inl rfl, ⟨.inl rfl, ⟨.inl rfl, ⟨.inl rfl, trivial⟩⟩⟩⟩⟩⟩⟩⟩⟩⟩⟩⟩⟩⟩
    refine ax_Wp.lpD (fun (s1 : UInt64 × Int32) => ((14, [none, none, some (.int p1), none, some (.double s1.1), none, some (.int s1.2), none, none, none, none, none, none, none], []), stt m)) ?_ hx
    clear hx
    intro s1 v hD ks1
    refine ax_Wp.go (f' := (20, [none, none, some (.int p1), none, some (.double s1.1), none, some (.int s1.2), none, none, none, none, none, none, none], [.int (Op.cmpValue (FP.dcmp s1.1 (4611686018427387904 : UInt64)) .l)])) 3 rfl ?_
    refine ax_Wp.brD hD rfl (fun _ hD => ?_) (fun _ hD => ?_)
    · obtain rfl := inj hD
      obtain rfl := ks1.o
      exact kkv2
    · refine ax_Wp.go (f' := (28, [none, none, some (.int p1), none, some (.double s1.1), none, some (.int s1.2), none, none, none, none, none, none, none], [.double (4611686018427387904 : UInt64), .double s1.1])) 2 rfl ?_
      refine ax_Wp.flD hD rfl (fun x3 hD => ?_)
      refine ax_Wp.go (f' := (14, [none, none, some (.int p1), none, some (.double x3), none, some (.int (s1.2 + (nI 1))), none, none, none, none, none, none, none], [])) 3 rfl ?_
      obtain rfl := inj hD
      exact ks1.i
def D244 (m : dM) : Option (Int64 × dM) := (fI m 130 7 (nI 0)).bind fun (m1 : dM) => (D172 m1).bind fun (r2 : dM) => (fL r2 130 13 (4357 : Int64)).bind fun (m3 : dM) => (D242 m3 ((rI m3 131 0).toInt64)).bind fun (r4 : dM) => (D242 r4 ((rI r4 131 117).toInt64)).bind fun (r5 : dM) => (D242 r5 ((rI r5 131 168).toInt64)).bind fun (r6 : dM) => (D242 r6 ((rI r6 131 169).toInt64)).bind fun (r7 : dM) => (D162 r7).bind fun (x8 : Int32) => (D163 r7).bind fun (x9 : Int32) => (D166 r7 x8 x9).bind fun (x10 : Int32) => (D242 r7 x10.toInt64).bind fun (r11 : dM) => (D167 r11).bind fun (x12 : Int32) => (D242 r11 x12.toInt64).bind fun (r13 : dM) => (D168 r13).bind fun (x14 : Int32) => (D242 r13 x14.toInt64).bind fun (r15 : dM) => (D242 r15 ((rI r15 131 170).toInt64)).bind fun (r16 : dM) => (D242 r16 ((rI r16 131 170).toInt64)).bind fun (r17 : dM) => (D242 r17 ((rI r17 131 171).toInt64)).bind fun (r18 : dM) => (D242 r18 ((rI r18 131 171).toInt64)).bind fun (r19 : dM) => (D242 r19 ((rI r19 130 2).toInt64)).bind fun (r20 : dM) => Option.bind (lp (β := dM) 3000 (fun (s21 : Int32 × dM) => if (rI s21.2 131 0) ≤ s21.1 then some (.inr s21.2) else (D154 s21.2 s21.1).bind fun (x23 : Int32) => (D242 s21.2 x23.toInt64).bind fun (r24 : dM) => (D155 r24 s21.1).bind fun (x25 : Int32) => (D242 r24 x25.toInt64).bind fun (r26 : dM) => (D157 r26 s21.1).bind fun (x27 : Int32) => (D243 r26 x27).bind fun (r28 : dM) => some (.inl (s21.1 + (nI 1), r28))) (nI 0, r20)) fun (v22 : dM) => Option.bind (lp (β := dM) 3000 (fun (s29 : Int32 × dM) => if (nI 4) ≤ s29.1 then some (.inr s29.2) else (D150 s29.2 s29.1 (nI 0)).bind fun (x31 : Int32) => (D242 s29.2 x31.toInt64).bind fun (r32 : dM) => (D150 r32 s29.1 (nI 1)).bind fun (x33 : Int32) => Option.bind ((if x33 = (nI 1) then some (nI 1) else some (nI 0)) : Option (Int32)) fun (v34 : Int32) => (D243 r32 v34).bind fun (r35 : dM) => (D158 r35 s29.1).bind fun (x36 : Int32) => (D242 r35 x36.toInt64).bind fun (r37 : dM) => (D150 r37 s29.1 (nI 2)).bind fun (x38 : Int32) => Option.bind ((if x38 = (-1) then some (nI 0) else some (nI 1)) : Option (Int32)) fun (v39 : Int32) => (D243 r37 v39).bind fun (r40 : dM) => (D150 r40 s29.1 (nI 2)).bind fun (x41 : Int32) => Option.bind ((if x41 = (-1) then some r40 else (D150 r40 s29.1 (nI 2)).bind fun (x43 : Int32) => (D242 r40 x43.toInt64).bind fun (r44 : dM) => some r44) : Option (dM)) fun (v42 : dM) => (D150 v42 s29.1 (nI 3)).bind fun (x45 : Int32) => (D242 v42 x45.toInt64).bind fun (r46 : dM) => (D150 r46 s29.1 (nI 4)).bind fun (x47 : Int32) => (D242 r46 x47.toInt64).bind fun (r48 : dM) => (D228 r48 s29.1).bind fun (r49 : Int32 × dM) => (D242 r49.2 r49.1.toInt64).bind fun (r50 : dM) => (D242 r50 r49.1.toInt64).bind fun (r51 : dM) => (gI r51 135 4 s29.1).bind fun (x52 : Int32) => (D242 r51 x52.toInt64).bind fun (r53 : dM) => Option.bind (lp (β := dM) 3000 (fun (s54 : Int32 × dM) => if (nI 10) ≤ s54.1 then some (.inr s54.2) else (gI s54.2 137 10 s54.1).bind fun (x56 : Int32) => (D242 s54.2 x56.toInt64).bind fun (r57 : dM) => some (.inl (s54.1 + (nI 1), r57))) (nI 0, r53)) fun (v55 : dM) => some (.inl (s29.1 + (nI 1), v55))) (nI 0, v22)) fun (v30 : dM) => Option.bind (lp (β := dM) 3000 (fun (s58 : Int32 × dM) => if (rI s58.2 131 117) ≤ s58.1 then some (.inr s58.2) else (D152 s58.2 s58.1 (nI 4)).bind fun (x60 : Int32) => Option.bind ((if x60 = (nI 0) then some (nI 1) else some (nI 0)) : Option (Int32)) fun (v61 : Int32) => (D243 s58.2 v61).bind fun (r62 : dM) => (D152 r62 s58.1 (nI 4)).bind fun (x63 : Int32) => Option.bind ((if x63 = (nI 2) then some (nI 1) else some (nI 0)) : Option (Int32)) fun (v64 : Int32) => (D243 r62 v64).bind fun (r65 : dM) => (D218 r65 s58.1).bind fun (x66 : Int32) => (D242 r65 x66.toInt64).bind fun (r67 : dM) => (D152 r67 s58.1 (nI 4)).bind fun (x68 : Int32) => Option.bind ((if x68 = (nI 0) then some r67 else (D152 r67 s58.1 (nI 5)).bind fun (x70 : Int32) => (D242 r67 x70.toInt64).bind fun (r71 : dM) => some r71) : Option (dM)) fun (v69 : dM) => some (.inl (s58.1 + (nI 1), v69))) (nI 0, v30)) fun (v59 : dM) => Option.bind ((if (rI v59 131 172) = (nI 1) then some (nI 1) else some (nI 0)) : Option (Int32)) fun (v72 : Int32) => (D243 v59 v72).bind fun (r73 : dM) => Option.bind ((if (rI r73 131 172) = (nI 1) then (D242 r73 ((rI r73 131 173).toInt64)).bind fun (r75 : dM) => some r75 else some r73) : Option (dM)) fun (v74 : dM) => (D237 v74).bind fun (x76 : UInt32) => (gD (FP.f2d x76)).bind fun (x77 : UInt64) => (D241 x77 (nI 23) (nI 127)).bind fun (x78 : Int64) => (D242 v74 x78).bind fun (r79 : dM) => (D238 r79).bind fun (x80 : UInt64) => (D241 x80 (nI 52) (nI 1023)).bind fun (x81 : Int64) => (D242 r79 x81).bind fun (r82 : dM) => (D242 r82 ((rI r82 130 6).toInt64)).bind fun (r83 : dM) => Option.bind (lp (β := dM) 3000 (fun (s84 : Int32 × dM) => if (rI s84.2 130 6) ≤ s84.1 then some (.inr s84.2) else (gI s84.2 134 60 s84.1).bind fun (x86 : Int32) => (D242 s84.2 x86.toInt64).bind fun (r87 : dM) => some (.inl (s84.1 + (nI 1), r87))) (nI 0, r83)) fun (v85 : dM) => some (rL v85 130 13, v85)
set_option maxRecDepth 20000 in
theorem w_244 {X : Nat × (Nat → Int32)} {d : Nat} {m : dM} {r : Int64 × dM} (hD : D244 m = some r) : ax_Ev X (d + 5) 244 [.ref 130] (stt m) (.inl (some (.long r.1))) (stt r.2) := by
  unfold D244 at hD
  show ax_Wp X (d + 4 + 1) 244 (0, [some (.ref 130), none, none, none], []) (stt m) _
  refine ax_Wp.go (f' := (2, [some (.ref 130), none, none, none], [.int (nI 0), .ref 130])) 2 rfl ?_
  refine ax_Wp.ptI hD rfl rfl rfl (fun m1 hD => ?_)
  refine ax_Wp.go (f' := (6, [some (.ref 130), none, none, none], [.ref 130])) 1 rfl ?_
  refine bnd hD (fun r2 hx hD => ?_)
  refine ax_Wp.callE (f' := (9, [some (.ref 130), none, none, none], [])) rfl rfl (w_172 (d := d + 0) hx) rfl ?_
  refine ax_Wp.go (f' := (13, [some (.ref 130), none, none, none], [.long (4357 : Int64), .ref 130])) 2 rfl ?_
  refine ax_Wp.ptL hD rfl rfl rfl (fun m3 hD => ?_)
  refine ax_Wp.go (f' := (24, [some (.ref 130), none, none, none], [.long ((rI m3 131 0).toInt64), .ref 130])) 6 rfl ?_
  refine bnd hD (fun r4 hx hD => ?_)
  refine ax_Wp.callE (f' := (27, [some (.ref 130), none, none, none], [])) rfl rfl (w_242 (d := d + 3) hx) rfl ?_
  refine ax_Wp.go (f' := (36, [some (.ref 130), none, none, none], [.long ((rI r4 131 117).toInt64), .ref 130])) 6 rfl ?_
  refine bnd hD (fun r5 hx hD => ?_)
  refine ax_Wp.callE (f' := (39, [some (.ref 130), none, none, none], [])) rfl rfl (w_242 (d := d + 3) hx) rfl ?_
  refine ax_Wp.go (f' := (49, [some (.ref 130), none, none, none], [.long ((rI r5 131 168).toInt64), .ref 130])) 6 rfl ?_
  refine bnd hD (fun r6 hx hD => ?_)
  refine ax_Wp.callE (f' := (52, [some (.ref 130), none, none, none], [])) rfl rfl (w_242 (d := d + 3) hx) rfl ?_
  refine ax_Wp.go (f' := (62, [some (.ref 130), none, none, none], [.long ((rI r6 131 169).toInt64), .ref 130])) 6 rfl ?_
  refine bnd hD (fun r7 hx hD => ?_)
  refine ax_Wp.callE (f' := (65, [some (.ref 130), none, none, none], [])) rfl rfl (w_242 (d := d + 3) hx) rfl ?_
  refine ax_Wp.go (f' := (68, [some (.ref 130), none, none, none], [.ref 130, .ref 130, .ref 130])) 3 rfl ?_
  refine bnd hD (fun x8 hx hD => ?_)
  refine ax_Wp.callE (f' := (71, [some (.ref 130), none, none, none], [.ref 130, .ref 130])) rfl rfl (w_162 (d := d + 1) hx) rfl ?_
  refine ax_Wp.go (f' := (72, [some (.ref 130), none, none, none], [.ref 130, .int x8, .ref 130, .ref 130])) 1 rfl ?_
  refine bnd hD (fun x9 hx hD => ?_)
  refine ax_Wp.callE (f' := (75, [some (.ref 130), none, none, none], [.int x8, .ref 130, .ref 130])) rfl rfl (w_163 (d := d + 1) hx) rfl ?_
  refine bnd hD (fun x10 hx hD => ?_)
  refine ax_Wp.callE (f' := (78, [some (.ref 130), none, none, none], [.ref 130])) rfl rfl (w_166 (d := d + 3) hx) rfl ?_
  refine ax_Wp.go (f' := (79, [some (.ref 130), none, none, none], [.long x10.toInt64, .ref 130])) 1 rfl ?_
  refine bnd hD (fun r11 hx hD => ?_)
  refine ax_Wp.callE (f' := (82, [some (.ref 130), none, none, none], [])) rfl rfl (w_242 (d := d + 3) hx) rfl ?_
  refine ax_Wp.go (f' := (84, [some (.ref 130), none, none, none], [.ref 130, .ref 130])) 2 rfl ?_
  refine bnd hD (fun x12 hx hD => ?_)
  refine ax_Wp.callE (f' := (87, [some (.ref 130), none, none, none], [.ref 130])) rfl rfl (w_167 (d := d + 3) hx) rfl ?_
  refine ax_Wp.go (f' := (88, [some (.ref 130), none, none, none], [.long x12.toInt64, .ref 130])) 1 rfl ?_
  refine bnd hD (fun r13 hx hD => ?_)
  refine ax_Wp.callE (f' := (91, [some (.ref 130), none, none, none], [])) rfl rfl (w_242 (d := d + 3) hx) rfl ?_
  refine ax_Wp.go (f' := (93, [some (.ref 130), none, none, none], [.ref 130, .ref 130])) 2 rfl ?_
  refine bnd hD (fun x14 hx hD => ?_)
  refine ax_Wp.callE (f' := (96, [some (.ref 130), none, none, none], [.ref 130])) rfl rfl (w_168 (d := d + 0) hx) rfl ?_
  refine ax_Wp.go (f' := (97, [some (.ref 130), none, none, none], [.long x14.toInt64, .ref 130])) 1 rfl ?_
  refine bnd hD (fun r15 hx hD => ?_)
  refine ax_Wp.callE (f' := (100, [some (.ref 130), none, none, none], [])) rfl rfl (w_242 (d := d + 3) hx) rfl ?_
  refine ax_Wp.go (f' := (110, [some (.ref 130), none, none, none], [.long ((rI r15 131 170).toInt64), .ref 130])) 6 rfl ?_
  refine bnd hD (fun r16 hx hD => ?_)
  refine ax_Wp.callE (f' := (113, [some (.ref 130), none, none, none], [])) rfl rfl (w_242 (d := d + 3) hx) rfl ?_
  refine ax_Wp.go (f' := (123, [some (.ref 130), none, none, none], [.long ((rI r16 131 170).toInt64), .ref 130])) 6 rfl ?_
  refine bnd hD (fun r17 hx hD => ?_)
  refine ax_Wp.callE (f' := (126, [some (.ref 130), none, none, none], [])) rfl rfl (w_242 (d := d + 3) hx) rfl ?_
  refine ax_Wp.go (f' := (136, [some (.ref 130), none, none, none], [.long ((rI r17 131 171).toInt64), .ref 130])) 6 rfl ?_
  refine bnd hD (fun r18 hx hD => ?_)
  refine ax_Wp.callE (f' := (139, [some (.ref 130), none, none, none], [])) rfl rfl (w_242 (d := d + 3) hx) rfl ?_
  refine ax_Wp.go (f' := (149, [some (.ref 130), none, none, none], [.long ((rI r18 131 171).toInt64), .ref 130])) 6 rfl ?_
  refine bnd hD (fun r19 hx hD => ?_)
  refine ax_Wp.callE (f' := (152, [some (.ref 130), none, none, none], [])) rfl rfl (w_242 (d := d + 3) hx) rfl ?_
  refine ax_Wp.go (f' := (158, [some (.ref 130), none, none, none], [.long ((rI r19 130 2).toInt64), .ref 130])) 4 rfl ?_
  refine bnd hD (fun r20 hx hD => ?_)
  refine ax_Wp.callE (f' := (161, [some (.ref 130), none, none, none], [])) rfl rfl (w_242 (d := d + 3) hx) rfl ?_
  refine ax_Wp.go (f' := (163, [some (.ref 130), some (.int (nI 0)), none, none], [])) 2 rfl ?_
  refine bnd hD (fun v22 hx hD => ?_)
  refine ax_Wp.jn (F := (208, [some (.ref 130), none, none, none], [])) (hh := stt v22) ?_ (fun kkv22 => ?_)
  · refine ax_Wp.go (f' := (210, [some (.ref 130), some (.int (nI 0)), none, none], [])) 2 rfl ?_
    refine bnd hD (fun v30 hx hD => ?_)
    refine ax_Wp.jn (F := (377, [some (.ref 130), none, none, none], [])) (hh := stt v30) ?_ (fun kkv30 => ?_)
    · refine ax_Wp.go (f' := (379, [some (.ref 130), some (.int (nI 0)), none, none], [])) 2 rfl ?_
      refine bnd hD (fun v59 hx hD => ?_)
      refine ax_Wp.jn (F := (463, [some (.ref 130), none, none, none], [])) (hh := stt v59) ?_ (fun kkv59 => ?_)
      · refine ax_Wp.go (f' := (473, [some (.ref 130), none, none, none], [.int (nI 1), .int (rI v59 131 172), .ref 130])) 6 rfl ?_
        refine bnd hD (fun v72 hx hD => ?_)
        refine ax_Wp.jn (F := (481, [some (.ref 130), none, none, none], [.int v72, .ref 130])) (hh := stt v59) ?_ (fun kkv72 => ?_)
        · refine bnd hD (fun r73 hx hD => ?_)
          refine ax_Wp.callE (f' := (484, [some (.ref 130), none, none, none], [])) rfl rfl (w_243 (d := d + 2) hx) rfl ?_
          refine ax_Wp.go (f' := (493, [some (.ref 130), none, none, none], [.int (nI 1), .int (rI r73 131 172)])) 5 rfl ?_
          refine bnd hD (fun v74 hx hD => ?_)
          refine ax_Wp.jn (F := (509, [some (.ref 130), none, none, none], [])) (hh := stt v74) ?_ (fun kkv74 => ?_)
          · refine ax_Wp.go (f' := (511, [some (.ref 130), none, none, none], [.ref 130, .ref 130])) 2 rfl ?_
            refine bnd hD (fun x76 hx hD => ?_)
            refine ax_Wp.callE (f' := (514, [some (.ref 130), none, none, none], [.ref 130])) rfl rfl (w_237 (d := d + 1) hx) rfl ?_
            refine ax_Wp.flD hD rfl (fun x77 hD => ?_)
            refine ax_Wp.go (f' := (519, [some (.ref 130), none, none, none], [.int (nI 127), .int (nI 23), .double x77, .ref 130])) 2 rfl ?_
            refine bnd hD (fun x78 hx hD => ?_)
            refine ax_Wp.callE (f' := (522, [some (.ref 130), none, none, none], [.ref 130])) rfl rfl (w_241 (d := d + 3) hx) rfl ?_
            refine bnd hD (fun r79 hx hD => ?_)
            refine ax_Wp.callE (f' := (525, [some (.ref 130), none, none, none], [])) rfl rfl (w_242 (d := d + 3) hx) rfl ?_
            refine ax_Wp.go (f' := (527, [some (.ref 130), none, none, none], [.ref 130, .ref 130])) 2 rfl ?_
            refine bnd hD (fun x80 hx hD => ?_)
            refine ax_Wp.callE (f' := (530, [some (.ref 130), none, none, none], [.ref 130])) rfl rfl (w_238 (d := d + 2) hx) rfl ?_
            refine ax_Wp.go (f' := (535, [some (.ref 130), none, none, none], [.int (nI 1023), .int (nI 52), .double x80, .ref 130])) 2 rfl ?_
            refine bnd hD (fun x81 hx hD => ?_)
            refine ax_Wp.callE (f' := (538, [some (.ref 130), none, none, none], [.ref 130])) rfl rfl (w_241 (d := d + 3) hx) rfl ?_
            refine bnd hD (fun r82 hx hD => ?_)
            refine ax_Wp.callE (f' := (541, [some (.ref 130), none, none, none], [])) rfl rfl (w_242 (d := d + 3) hx) rfl ?_
            refine ax_Wp.go (f' := (547, [some (.ref 130), none, none, none], [.long ((rI r82 130 6).toInt64), .ref 130])) 4 rfl ?_
            refine bnd hD (fun r83 hx hD => ?_)
            refine ax_Wp.callE (f' := (550, [some (.ref 130), none, none, none], [])) rfl rfl (w_242 (d := d + 3) hx) rfl ?_
            refine ax_Wp.go (f' := (552, [some (.ref 130), some (.int (nI 0)), none, none], [])) 2 rfl ?_
            refine bnd hD (fun v85 hx hD => ?_)
            refine ax_Wp.jn (F := (577, [some (.ref 130), none, none, none], [])) (hh := stt v85) ?_ (fun kkv85 => ?_)
            · refine ax_Wp.go (f' := (581, [some (.ref 130), none, none, none], [.long (rL v85 130 13)])) 2 rfl ?_
              obtain rfl := inj hD
              exact ax_Wp.ret rfl ⟨rfl, rfl⟩
            clear hD
            refine ax_Wp.lpD (fun (s84 : Int32 × dM) => ((552, [some (.ref 130), some (.int s84.1), none, none], []), stt s84.2)) ?_ hx
            clear hx
            intro s84 v hD ks84
            refine ax_Wp.go (f' := (557, [some (.ref 130), some (.int s84.1), none, none], [.int (rI s84.2 130 6), .int s84.1])) 3 rfl ?_
            refine ax_Wp.brD hD rfl (fun _ hD => ?_) (fun _ hD => ?_)
            · obtain rfl := inj hD
              obtain rfl := ks84.o
              exact ax_Wp.dead kkv85 ⟨.inl rfl, ⟨.inr ⟨rfl, trivial⟩, ⟨.inl rfl, ⟨.inl rfl, trivial⟩⟩⟩⟩
            · refine ax_Wp.go (f' := (566, [some (.ref 130), some (.int s84.1), none, none], [.int s84.1, .ref 134, .ref 130])) 4 rfl ?_
              refine ax_Wp.rdI hD rfl rfl rfl (fun x86 hD => ?_)
              refine ax_Wp.go (f' := (568, [some (.ref 130), some (.int s84.1), none, none], [.long x86.toInt64, .ref 130])) 1 rfl ?_
              refine bnd hD (fun r87 hx hD => ?_)
              refine ax_Wp.callE (f' := (571, [some (.ref 130), some (.int s84.1), none, none], [])) rfl rfl (w_242 (d := d + 3) hx) rfl ?_
              refine ax_Wp.go (f' := (552, [some (.ref 130), some (.int (s84.1 + (nI 1))), none, none], [])) 2 rfl ?_
              obtain rfl := inj hD
              exact ks84.i
          clear hD
          have hD := hx
          clear hx
          refine ax_Wp.brD hD rfl (fun _ hD => ?_) (fun _ hD => ?_)
          · refine ax_Wp.go (f' := (506, [some (.ref 130), none, none, none], [.long ((rI r73 131 173).toInt64), .ref 130])) 6 rfl ?_
            refine bnd hD (fun r75 hx hD => ?_)
            refine ax_Wp.callE (f' := (509, [some (.ref 130), none, none, none], [])) rfl rfl (w_242 (d := d + 3) hx) rfl ?_
            obtain rfl := inj hD
            exact kkv74
          · obtain rfl := inj hD
            exact kkv74
        clear hD
        have hD := hx
        clear hx
        refine ax_Wp.brD hD rfl (fun _ hD => ?_) (fun _ hD => ?_)
        · refine ax_Wp.go (f' := (481, [some (.ref 130), none, none, none], [.int (nI 1), .ref 130])) 2 rfl ?_
          obtain rfl := inj hD
          exact kkv72
        · refine ax_Wp.go (f' := (481, [some (.ref 130), none, none, none], [.int (nI 0), .ref 130])) 1 rfl ?_
          obtain rfl := inj hD
          exact kkv72
      clear hD
      refine ax_Wp.lpD (fun (s58 : Int32 × dM) => ((379, [some (.ref 130), some (.int s58.1), none, none], []), stt s58.2)) ?_ hx
      clear hx
      intro s58 v hD ks58
      refine ax_Wp.go (f' := (387, [some (.ref 130), some (.int s58.1), none, none], [.int (rI s58.2 131 117), .int s58.1])) 5 rfl ?_
      refine ax_Wp.brD hD rfl (fun _ hD => ?_) (fun _ hD => ?_)
      · obtain rfl := inj hD
        obtain rfl := ks58.o
        exact ax_Wp.dead kkv59 ⟨.inl rfl, ⟨.inr ⟨rfl, trivial⟩, ⟨.inl rfl, ⟨.inl rfl, trivial⟩⟩⟩⟩
      · refine ax_Wp.go (f' := (394, [some (.ref 130), some (.int s58.1), none, none], [.int (nI 4), .int s58.1, .ref 130, .ref 130])) 4 rfl ?_
        refine bnd hD (fun x60 hx hD => ?_)
        refine ax_Wp.callE (f' := (397, [some (.ref 130), some (.int s58.1), none, none], [.ref 130])) rfl rfl (w_152 (d := d + 3) hx) rfl ?_
        refine bnd hD (fun v61 hx hD => ?_)
        refine ax_Wp.jn (F := (405, [some (.ref 130), some (.int s58.1), none, none], [.int v61, .ref 130])) (hh := stt s58.2) ?_ (fun kkv61 => ?_)
        · refine bnd hD (fun r62 hx hD => ?_)
          refine ax_Wp.callE (f' := (408, [some (.ref 130), some (.int s58.1), none, none], [])) rfl rfl (w_243 (d := d + 2) hx) rfl ?_
          refine ax_Wp.go (f' := (412, [some (.ref 130), some (.int s58.1), none, none], [.int (nI 4), .int s58.1, .ref 130, .ref 130])) 4 rfl ?_
          refine bnd hD (fun x63 hx hD => ?_)
          refine ax_Wp.callE (f' := (415, [some (.ref 130), some (.int s58.1), none, none], [.ref 130])) rfl rfl (w_152 (d := d + 3) hx) rfl ?_
          refine ax_Wp.go (f' := (416, [some (.ref 130), some (.int s58.1), none, none], [.int (nI 2), .int x63, .ref 130])) 1 rfl ?_
          refine bnd hD (fun v64 hx hD => ?_)
          refine ax_Wp.jn (F := (424, [some (.ref 130), some (.int s58.1), none, none], [.int v64, .ref 130])) (hh := stt r62) ?_ (fun kkv64 => ?_)
          · refine bnd hD (fun r65 hx hD => ?_)
            refine ax_Wp.callE (f' := (427, [some (.ref 130), some (.int s58.1), none, none], [])) rfl rfl (w_243 (d := d + 2) hx) rfl ?_
            refine ax_Wp.go (f' := (430, [some (.ref 130), some (.int s58.1), none, none], [.int s58.1, .ref 130, .ref 130])) 3 rfl ?_
            refine bnd hD (fun x66 hx hD => ?_)
            refine ax_Wp.callE (f' := (433, [some (.ref 130), some (.int s58.1), none, none], [.ref 130])) rfl rfl (w_218 (d := d + 2) hx) rfl ?_
            refine ax_Wp.go (f' := (434, [some (.ref 130), some (.int s58.1), none, none], [.long x66.toInt64, .ref 130])) 1 rfl ?_
            refine bnd hD (fun r67 hx hD => ?_)
            refine ax_Wp.callE (f' := (437, [some (.ref 130), some (.int s58.1), none, none], [])) rfl rfl (w_242 (d := d + 3) hx) rfl ?_
            refine ax_Wp.go (f' := (440, [some (.ref 130), some (.int s58.1), none, none], [.int (nI 4), .int s58.1, .ref 130])) 3 rfl ?_
            refine bnd hD (fun x68 hx hD => ?_)
            refine ax_Wp.callE (f' := (443, [some (.ref 130), some (.int s58.1), none, none], [])) rfl rfl (w_152 (d := d + 3) hx) rfl ?_
            refine bnd hD (fun v69 hx hD => ?_)
            refine ax_Wp.jn (F := (457, [some (.ref 130), some (.int s58.1), none, none], [])) (hh := stt v69) ?_ (fun kkv69 => ?_)
            · refine ax_Wp.go (f' := (379, [some (.ref 130), some (.int (s58.1 + (nI 1))), none, none], [])) 2 rfl ?_
              obtain rfl := inj hD
              exact ks58.i
            clear hD
            have hD := hx
            clear hx
            refine ax_Wp.brD hD rfl (fun _ hD => ?_) (fun _ hD => ?_)
            · obtain rfl := inj hD
              exact kkv69
            · refine ax_Wp.go (f' := (450, [some (.ref 130), some (.int s58.1), none, none], [.int (nI 5), .int s58.1, .ref 130, .ref 130])) 4 rfl ?_
              refine bnd hD (fun x70 hx hD => ?_)
              refine ax_Wp.callE (f' := (453, [some (.ref 130), some (.int s58.1), none, none], [.ref 130])) rfl rfl (w_152 (d := d + 3) hx) rfl ?_
              refine ax_Wp.go (f' := (454, [some (.ref 130), some (.int s58.1), none, none], [.long x70.toInt64, .ref 130])) 1 rfl ?_
              refine bnd hD (fun r71 hx hD => ?_)
              refine ax_Wp.callE (f' := (457, [some (.ref 130), some (.int s58.1), none, none], [])) rfl rfl (w_242 (d := d + 3) hx) rfl ?_
              obtain rfl := inj hD
              exact kkv69
          clear hD
          have hD := hx
          clear hx
          refine ax_Wp.brD hD rfl (fun _ hD => ?_) (fun _ hD => ?_)
          · refine ax_Wp.go (f' := (424, [some (.ref 130), some (.int s58.1), none, none], [.int (nI 1), .ref 130])) 2 rfl ?_
            obtain rfl := inj hD
            exact kkv64
          · refine ax_Wp.go (f' := (424, [some (.ref 130), some (.int s58.1), none, none], [.int (nI 0), .ref 130])) 1 rfl ?_
            obtain rfl := inj hD
            exact kkv64
        clear hD
        have hD := hx
        clear hx
        refine ax_Wp.brD hD rfl (fun _ hD => ?_) (fun _ hD => ?_)
        · refine ax_Wp.go (f' := (405, [some (.ref 130), some (.int s58.1), none, none], [.int (nI 1), .ref 130])) 2 rfl ?_
          obtain rfl := inj hD
          exact kkv61
        · refine ax_Wp.go (f' := (405, [some (.ref 130), some (.int s58.1), none, none], [.int (nI 0), .ref 130])) 1 rfl ?_
          obtain rfl := inj hD
          exact kkv61
    clear hD
    refine ax_Wp.lpD (fun (s29 : Int32 × dM) => ((210, [some (.ref 130), some (.int s29.1), none, none], []), stt s29.2)) ?_ hx
    clear hx
    intro s29 v hD ks29
    refine ax_Wp.go (f' := (212, [some (.ref 130), some (.int s29.1), none, none], [.int (nI 4), .int s29.1])) 2 rfl ?_
    refine ax_Wp.brD hD rfl (fun _ hD => ?_) (fun _ hD => ?_)
    · obtain rfl := inj hD
      obtain rfl := ks29.o
      exact ax_Wp.dead kkv30 ⟨.inl rfl, ⟨.inr ⟨rfl, trivial⟩, ⟨.inl rfl, ⟨.inl rfl, trivial⟩⟩⟩⟩
    · refine ax_Wp.go (f' := (219, [some (.ref 130), some (.int s29.1), none, none], [.int (nI 0), .int s29.1, .ref 130, .ref 130])) 4 rfl ?_
      refine bnd hD (fun x31 hx hD => ?_)
      refine ax_Wp.callE (f' := (222, [some (.ref 130), some (.int s29.1), none, none], [.ref 130])) rfl rfl (w_150 (d := d + 3) hx) rfl ?_
      refine ax_Wp.go (f' := (223, [some (.ref 130), some (.int s29.1), none, none], [.long x31.toInt64, .ref 130])) 1 rfl ?_
      refine bnd hD (fun r32 hx hD => ?_)
      refine ax_Wp.callE (f' := (226, [some (.ref 130), some (.int s29.1), none, none], [])) rfl rfl (w_242 (d := d + 3) hx) rfl ?_
      refine ax_Wp.go (f' := (230, [some (.ref 130), some (.int s29.1), none, none], [.int (nI 1), .int s29.1, .ref 130, .ref 130])) 4 rfl ?_
      refine bnd hD (fun x33 hx hD => ?_)
      refine ax_Wp.callE (f' := (233, [some (.ref 130), some (.int s29.1), none, none], [.ref 130])) rfl rfl (w_150 (d := d + 3) hx) rfl ?_
      refine ax_Wp.go (f' := (234, [some (.ref 130), some (.int s29.1), none, none], [.int (nI 1), .int x33, .ref 130])) 1 rfl ?_
      refine bnd hD (fun v34 hx hD => ?_)
      refine ax_Wp.jn (F := (242, [some (.ref 130), some (.int s29.1), none, none], [.int v34, .ref 130])) (hh := stt r32) ?_ (fun kkv34 => ?_)
      · refine bnd hD (fun r35 hx hD => ?_)
        refine ax_Wp.callE (f' := (245, [some (.ref 130), some (.int s29.1), none, none], [])) rfl rfl (w_243 (d := d + 2) hx) rfl ?_
        refine ax_Wp.go (f' := (248, [some (.ref 130), some (.int s29.1), none, none], [.int s29.1, .ref 130, .ref 130])) 3 rfl ?_
        refine bnd hD (fun x36 hx hD => ?_)
        refine ax_Wp.callE (f' := (251, [some (.ref 130), some (.int s29.1), none, none], [.ref 130])) rfl rfl (w_158 (d := d + 2) hx) rfl ?_
        refine ax_Wp.go (f' := (252, [some (.ref 130), some (.int s29.1), none, none], [.long x36.toInt64, .ref 130])) 1 rfl ?_
        refine bnd hD (fun r37 hx hD => ?_)
        refine ax_Wp.callE (f' := (255, [some (.ref 130), some (.int s29.1), none, none], [])) rfl rfl (w_242 (d := d + 3) hx) rfl ?_
        refine ax_Wp.go (f' := (259, [some (.ref 130), some (.int s29.1), none, none], [.int (nI 2), .int s29.1, .ref 130, .ref 130])) 4 rfl ?_
        refine bnd hD (fun x38 hx hD => ?_)
        refine ax_Wp.callE (f' := (262, [some (.ref 130), some (.int s29.1), none, none], [.ref 130])) rfl rfl (w_150 (d := d + 3) hx) rfl ?_
        refine ax_Wp.go (f' := (263, [some (.ref 130), some (.int s29.1), none, none], [.int (-1), .int x38, .ref 130])) 1 rfl ?_
        refine bnd hD (fun v39 hx hD => ?_)
        refine ax_Wp.jn (F := (271, [some (.ref 130), some (.int s29.1), none, none], [.int v39, .ref 130])) (hh := stt r37) ?_ (fun kkv39 => ?_)
        · refine bnd hD (fun r40 hx hD => ?_)
          refine ax_Wp.callE (f' := (274, [some (.ref 130), some (.int s29.1), none, none], [])) rfl rfl (w_243 (d := d + 2) hx) rfl ?_
          refine ax_Wp.go (f' := (277, [some (.ref 130), some (.int s29.1), none, none], [.int (nI 2), .int s29.1, .ref 130])) 3 rfl ?_
          refine bnd hD (fun x41 hx hD => ?_)
          refine ax_Wp.callE (f' := (280, [some (.ref 130), some (.int s29.1), none, none], [])) rfl rfl (w_150 (d := d + 3) hx) rfl ?_
          refine ax_Wp.go (f' := (281, [some (.ref 130), some (.int s29.1), none, none], [.int (-1), .int x41])) 1 rfl ?_
          refine bnd hD (fun v42 hx hD => ?_)
          refine ax_Wp.jn (F := (295, [some (.ref 130), some (.int s29.1), none, none], [])) (hh := stt v42) ?_ (fun kkv42 => ?_)
          · refine ax_Wp.go (f' := (299, [some (.ref 130), some (.int s29.1), none, none], [.int (nI 3), .int s29.1, .ref 130, .ref 130])) 4 rfl ?_
            refine bnd hD (fun x45 hx hD => ?_)
            refine ax_Wp.callE (f' := (302, [some (.ref 130), some (.int s29.1), none, none], [.ref 130])) rfl rfl (w_150 (d := d + 3) hx) rfl ?_
            refine ax_Wp.go (f' := (303, [some (.ref 130), some (.int s29.1), none, none], [.long x45.toInt64, .ref 130])) 1 rfl ?_
            refine bnd hD (fun r46 hx hD => ?_)
            refine ax_Wp.callE (f' := (306, [some (.ref 130), some (.int s29.1), none, none], [])) rfl rfl (w_242 (d := d + 3) hx) rfl ?_
            refine ax_Wp.go (f' := (310, [some (.ref 130), some (.int s29.1), none, none], [.int (nI 4), .int s29.1, .ref 130, .ref 130])) 4 rfl ?_
            refine bnd hD (fun x47 hx hD => ?_)
            refine ax_Wp.callE (f' := (313, [some (.ref 130), some (.int s29.1), none, none], [.ref 130])) rfl rfl (w_150 (d := d + 3) hx) rfl ?_
            refine ax_Wp.go (f' := (314, [some (.ref 130), some (.int s29.1), none, none], [.long x47.toInt64, .ref 130])) 1 rfl ?_
            refine bnd hD (fun r48 hx hD => ?_)
            refine ax_Wp.callE (f' := (317, [some (.ref 130), some (.int s29.1), none, none], [])) rfl rfl (w_242 (d := d + 3) hx) rfl ?_
            refine ax_Wp.go (f' := (319, [some (.ref 130), some (.int s29.1), none, none], [.int s29.1, .ref 130])) 2 rfl ?_
            refine bnd hD (fun r49 hx hD => ?_)
            refine ax_Wp.callE (f' := (322, [some (.ref 130), some (.int s29.1), none, none], [])) rfl rfl (w_228 (d := d + 1) hx) rfl ?_
            refine ax_Wp.go (f' := (326, [some (.ref 130), some (.int s29.1), some (.int r49.1), none], [.long r49.1.toInt64, .ref 130])) 4 rfl ?_
            refine bnd hD (fun r50 hx hD => ?_)
            refine ax_Wp.callE (f' := (329, [some (.ref 130), some (.int s29.1), some (.int r49.1), none], [])) rfl rfl (w_242 (d := d + 3) hx) rfl ?_
            refine ax_Wp.go (f' := (332, [some (.ref 130), some (.int s29.1), some (.int r49.1), none], [.long r49.1.toInt64, .ref 130])) 3 rfl ?_
            refine bnd hD (fun r51 hx hD => ?_)
            refine ax_Wp.callE (f' := (335, [some (.ref 130), some (.int s29.1), some (.int r49.1), none], [])) rfl rfl (w_242 (d := d + 3) hx) rfl ?_
            refine ax_Wp.go (f' := (341, [some (.ref 130), some (.int s29.1), some (.int r49.1), none], [.int s29.1, .ref 135, .ref 130])) 4 rfl ?_
            refine ax_Wp.rdI hD rfl rfl rfl (fun x52 hD => ?_)
            refine ax_Wp.go (f' := (343, [some (.ref 130), some (.int s29.1), some (.int r49.1), none], [.long x52.toInt64, .ref 130])) 1 rfl ?_
            refine bnd hD (fun r53 hx hD => ?_)
            refine ax_Wp.callE (f' := (346, [some (.ref 130), some (.int s29.1), some (.int r49.1), none], [])) rfl rfl (w_242 (d := d + 3) hx) rfl ?_
            refine ax_Wp.go (f' := (348, [some (.ref 130), some (.int s29.1), some (.int r49.1), some (.int (nI 0))], [])) 2 rfl ?_
            refine bnd hD (fun v55 hx hD => ?_)
            refine ax_Wp.jn (F := (371, [some (.ref 130), some (.int s29.1), none, none], [])) (hh := stt v55) ?_ (fun kkv55 => ?_)
            · refine ax_Wp.go (f' := (210, [some (.ref 130), some (.int (s29.1 + (nI 1))), none, none], [])) 2 rfl ?_
              obtain rfl := inj hD
              exact ks29.i
            clear hD
            refine ax_Wp.dead (L := [some (.ref 130), some (.int s29.1), none, some (.int (nI 0))]) ?_ ⟨.inl rfl, ⟨.inl rfl, ⟨.inr ⟨rfl, trivial⟩, ⟨.inl rfl, trivial⟩⟩⟩⟩
            refine ax_Wp.lpD (fun (s54 : Int32 × dM) => ((348, [some (.ref 130), some (.int s29.1), none, some (.int s54.1)], []), stt s54.2)) ?_ hx
            clear hx
            intro s54 v hD ks54
            refine ax_Wp.go (f' := (351, [some (.ref 130), some (.int s29.1), none, some (.int s54.1)], [.int (nI 10), .int s54.1])) 2 rfl ?_
            refine ax_Wp.brD hD rfl (fun _ hD => ?_) (fun _ hD => ?_)
            · obtain rfl := inj hD
              obtain rfl := ks54.o
              exact ax_Wp.dead kkv55 ⟨.inl rfl, ⟨.inl rfl, ⟨.inl rfl, ⟨.inr ⟨rfl, trivial⟩, trivial⟩⟩⟩⟩
            · refine ax_Wp.go (f' := (360, [some (.ref 130), some (.int s29.1), none, some (.int s54.1)], [.int s54.1, .ref 137, .ref 130])) 4 rfl ?_
              refine ax_Wp.rdI hD rfl rfl rfl (fun x56 hD => ?_)
              refine ax_Wp.go (f' := (362, [some (.ref 130), some (.int s29.1), none, some (.int s54.1)], [.long x56.toInt64, .ref 130])) 1 rfl ?_
              refine bnd hD (fun r57 hx hD => ?_)
              refine ax_Wp.callE (f' := (365, [some (.ref 130), some (.int s29.1), none, some (.int s54.1)], [])) rfl rfl (w_242 (d := d + 3) hx) rfl ?_
              refine ax_Wp.go (f' := (348, [some (.ref 130), some (.int s29.1), none, some (.int (s54.1 + (nI 1)))], [])) 2 rfl ?_
              obtain rfl := inj hD
              exact ks54.i
          clear hD
          have hD := hx
          clear hx
          refine ax_Wp.brD hD rfl (fun _ hD => ?_) (fun _ hD => ?_)
          · obtain rfl := inj hD
            exact kkv42
          · refine ax_Wp.go (f' := (288, [some (.ref 130), some (.int s29.1), none, none], [.int (nI 2), .int s29.1, .ref 130, .ref 130])) 4 rfl ?_
            refine bnd hD (fun x43 hx hD => ?_)
            refine ax_Wp.callE (f' := (291, [some (.ref 130), some (.int s29.1), none, none], [.ref 130])) rfl rfl (w_150 (d := d + 3) hx) rfl ?_
            refine ax_Wp.go (f' := (292, [some (.ref 130), some (.int s29.1), none, none], [.long x43.toInt64, .ref 130])) 1 rfl ?_
            refine bnd hD (fun r44 hx hD => ?_)
            refine ax_Wp.callE (f' := (295, [some (.ref 130), some (.int s29.1), none, none], [])) rfl rfl (w_242 (d := d + 3) hx) rfl ?_
            obtain rfl := inj hD
            exact kkv42
        clear hD
        have hD := hx
        clear hx
        refine ax_Wp.brD hD rfl (fun _ hD => ?_) (fun _ hD => ?_)
        · refine ax_Wp.go (f' := (271, [some (.ref 130), some (.int s29.1), none, none], [.int (nI 0), .ref 130])) 1 rfl ?_
          obtain rfl := inj hD
          exact kkv39
        · refine ax_Wp.go (f' := (271, [some (.ref 130), some (.int s29.1), none, none], [.int (nI 1), .ref 130])) 2 rfl ?_
          obtain rfl := inj hD
          exact kkv39
      clear hD
      have hD := hx
      clear hx
      refine ax_Wp.brD hD rfl (fun _ hD => ?_) (fun _ hD => ?_)
      · refine ax_Wp.go (f' := (242, [some (.ref 130), some (.int s29.1), none, none], [.int (nI 1), .ref 130])) 2 rfl ?_
        obtain rfl := inj hD
        exact kkv34
      · refine ax_Wp.go (f' := (242, [some (.ref 130), some (.int s29.1), none, none], [.int (nI 0), .ref 130])) 1 rfl ?_
        obtain rfl := inj hD
        exact kkv34
  clear hD
  refine ax_Wp.lpD (fun (s21 : Int32 × dM) => ((163, [some (.ref 130), some (.int s21.1), none, none], []), stt s21.2)) ?_ hx
  clear hx
  intro s21 v hD ks21
  refine ax_Wp.go (f' := (170, [some (.ref 130), some (.int s21.1), none, none], [.int (rI s21.2 131 0), .int s21.1])) 5 rfl ?_
  refine ax_Wp.brD hD rfl (fun _ hD => ?_) (fun _ hD => ?_)
  · obtain rfl := inj hD
    obtain rfl := ks21.o
    exact ax_Wp.dead kkv22 ⟨.inl rfl, ⟨.inr ⟨rfl, trivial⟩, ⟨.inl rfl, ⟨.inl rfl, trivial⟩⟩⟩⟩
  · refine ax_Wp.go (f' := (176, [some (.ref 130), some (.int s21.1), none, none], [.int s21.1, .ref 130, .ref 130])) 3 rfl ?_
    refine bnd hD (fun x23 hx hD => ?_)
    refine ax_Wp.callE (f' := (179, [some (.ref 130), some (.int s21.1), none, none], [.ref 130])) rfl rfl (w_154 (d := d + 3) hx) rfl ?_
    refine ax_Wp.go (f' := (180, [some (.ref 130), some (.int s21.1), none, none], [.long x23.toInt64, .ref 130])) 1 rfl ?_
    refine bnd hD (fun r24 hx hD => ?_)
    refine ax_Wp.callE (f' := (183, [some (.ref 130), some (.int s21.1), none, none], [])) rfl rfl (w_242 (d := d + 3) hx) rfl ?_
    refine ax_Wp.go (f' := (186, [some (.ref 130), some (.int s21.1), none, none], [.int s21.1, .ref 130, .ref 130])) 3 rfl ?_
    refine bnd hD (fun x25 hx hD => ?_)
    refine ax_Wp.callE (f' := (189, [some (.ref 130), some (.int s21.1), none, none], [.ref 130])) rfl rfl (w_155 (d := d + 3) hx) rfl ?_
    refine ax_Wp.go (f' := (190, [some (.ref 130), some (.int s21.1), none, none], [.long x25.toInt64, .ref 130])) 1 rfl ?_
    refine bnd hD (fun r26 hx hD => ?_)
    refine ax_Wp.callE (f' := (193, [some (.ref 130), some (.int s21.1), none, none], [])) rfl rfl (w_242 (d := d + 3) hx) rfl ?_
    refine ax_Wp.go (f' := (196, [some (.ref 130), some (.int s21.1), none, none], [.int s21.1, .ref 130, .ref 130])) 3 rfl ?_
    refine bnd hD (fun x27 hx hD => ?_)
    refine ax_Wp.callE (f' := (199, [some (.ref 130), some (.int s21.1), none, none], [.ref 130])) rfl rfl (w_157 (d := d + 3) hx) rfl ?_
    refine bnd hD (fun r28 hx hD => ?_)
    refine ax_Wp.callE (f' := (202, [some (.ref 130), some (.int s21.1), none, none], [])) rfl rfl (w_243 (d := d + 2) hx) rfl ?_
    refine ax_Wp.go (f' := (163, [some (.ref 130), some (.int (s21.1 + (nI 1))), none, none], [])) 2 rfl ?_
    obtain rfl := inj hD
    exact ks21.i
def D60 (m : dM) (p0 : Int32) (p1 : Int32) : Option (Int32) := lp (β := Int32) 3000 (fun (s1 : Int32) => if (rI m 2 4) ≤ s1 then some (.inr (-1)) else (gI m 3 24 s1).bind fun (x2 : Int32) => if x2 = p0 then (gI m 4 24 s1).bind fun (x3 : Int32) => if x3 = p1 then some (.inr s1) else some (.inl (s1 + (nI 1))) else some (.inl (s1 + (nI 1)))) (nI 0)
set_option maxRecDepth 20000 in
theorem w_60 {X : Nat × (Nat → Int32)} {d : Nat} {m : dM} {p0 : Int32} {p1 : Int32} {r : Int32} (hD : D60 m p0 p1 = some r) : ax_Ev X (d + 1) 60 [.ref 2, .int p0, .int p1] (stt m) (.inl (some (.int r))) (stt m) := by
  unfold D60 at hD
  show ax_Wp X (d + 0 + 1) 60 (0, [some (.ref 2), some (.int p0), some (.int p1), none], []) (stt m) _
  refine ax_Wp.go (f' := (2, [some (.ref 2), some (.int p0), some (.int p1), some (.int (nI 0))], [])) 2 rfl ?_
  refine ax_Wp.lpD (fun (s1 : Int32) => ((2, [some (.ref 2), some (.int p0), some (.int p1), some (.int s1)], []), stt m)) ?_ hD
  clear hD
  intro s1 v hD ks1
  refine ax_Wp.go (f' := (7, [some (.ref 2), some (.int p0), some (.int p1), some (.int s1)], [.int (rI m 2 4), .int s1])) 3 rfl ?_
  refine ax_Wp.brD hD rfl (fun _ hD => ?_) (fun _ hD => ?_)
  · refine ax_Wp.go (f' := (39, [some (.ref 2), some (.int p0), some (.int p1), some (.int s1)], [.int (-1)])) 1 rfl ?_
    obtain rfl := inj hD
    obtain rfl := ks1.o
    exact ax_Wp.ret rfl ⟨rfl, rfl⟩
  · refine ax_Wp.go (f' := (15, [some (.ref 2), some (.int p0), some (.int p1), some (.int s1)], [.int s1, .ref 3])) 3 rfl ?_
    refine ax_Wp.rdI hD rfl rfl rfl (fun x2 hD => ?_)
    refine ax_Wp.go (f' := (17, [some (.ref 2), some (.int p0), some (.int p1), some (.int s1)], [.int p0, .int x2])) 1 rfl ?_
    refine ax_Wp.brD hD rfl (fun _ hD => ?_) (fun _ hD => ?_)
    · refine ax_Wp.go (f' := (25, [some (.ref 2), some (.int p0), some (.int p1), some (.int s1)], [.int s1, .ref 4])) 3 rfl ?_
      refine ax_Wp.rdI hD rfl rfl rfl (fun x3 hD => ?_)
      refine ax_Wp.go (f' := (27, [some (.ref 2), some (.int p0), some (.int p1), some (.int s1)], [.int p1, .int x3])) 1 rfl ?_
      refine ax_Wp.brD hD rfl (fun _ hD => ?_) (fun _ hD => ?_)
      · refine ax_Wp.go (f' := (31, [some (.ref 2), some (.int p0), some (.int p1), some (.int s1)], [.int s1])) 1 rfl ?_
        obtain rfl := inj hD
        obtain rfl := ks1.o
        exact ax_Wp.ret rfl ⟨rfl, rfl⟩
      · refine ax_Wp.go (f' := (2, [some (.ref 2), some (.int p0), some (.int p1), some (.int (s1 + (nI 1)))], [])) 2 rfl ?_
        obtain rfl := inj hD
        exact ks1.i
    · refine ax_Wp.go (f' := (2, [some (.ref 2), some (.int p0), some (.int p1), some (.int (s1 + (nI 1)))], [])) 2 rfl ?_
      obtain rfl := inj hD
      exact ks1.i
def D61 (m : dM) (p0 : Int32) (p1 : Int32) (p2 : Int32) : Option (Int32 × dM) := if (rI m 2 4) < (nI 24) then (sI m 3 24 (rI m 2 4) p0).bind fun (m1 : dM) => (sI m1 4 24 (rI m 2 4) p1).bind fun (m2 : dM) => Option.bind ((if p2 = (nI 0) then some m2 else (fI m2 2 2 ((rI m2 2 2) ||| ((nI 1) <<< ((rI m 2 4) &&& nI 31)))).bind fun (m4 : dM) => some m4) : Option (dM)) fun (v3 : dM) => (fI v3 2 3 ((rI v3 2 3) ||| ((nI 1) <<< ((rI m 2 4) &&& nI 31)))).bind fun (m5 : dM) => (fI m5 2 4 ((rI m5 2 4) + (nI 1))).bind fun (m6 : dM) => some (rI m 2 4, m6) else some ((-1), m)
set_option maxRecDepth 20000 in
theorem w_61 {X : Nat × (Nat → Int32)} {d : Nat} {m : dM} {p0 : Int32} {p1 : Int32} {p2 : Int32} {r : Int32 × dM} (hD : D61 m p0 p1 p2 = some r) : ax_Ev X (d + 1) 61 [.ref 2, .int p0, .int p1, .int p2] (stt m) (.inl (some (.int r.1))) (stt r.2) := by
  unfold D61 at hD
  show ax_Wp X (d + 0 + 1) 61 (0, [some (.ref 2), some (.int p0), some (.int p1), some (.int p2), none], []) (stt m) _
  refine ax_Wp.go (f' := (10, [some (.ref 2), some (.int p0), some (.int p1), some (.int p2), some (.int (rI m 2 4))], [.int (nI 24), .int (rI m 2 4)])) 5 rfl ?_
  refine ax_Wp.brD hD rfl (fun _ hD => ?_) (fun _ hD => ?_)
  · refine ax_Wp.go (f' := (22, [some (.ref 2), some (.int p0), some (.int p1), some (.int p2), some (.int (rI m 2 4))], [.int p0, .int (rI m 2 4), .ref 3])) 4 rfl ?_
    refine ax_Wp.wrI hD rfl rfl (fun _ => rfl) (fun m1 hD => ?_)
    refine ax_Wp.go (f' := (30, [some (.ref 2), some (.int p0), some (.int p1), some (.int p2), some (.int (rI m 2 4))], [.int p1, .int (rI m 2 4), .ref 4])) 4 rfl ?_
    refine ax_Wp.wrI hD rfl rfl (fun _ => rfl) (fun m2 hD => ?_)
    refine ax_Wp.go (f' := (32, [some (.ref 2), some (.int p0), some (.int p1), some (.int p2), some (.int (rI m 2 4))], [.int p2])) 1 rfl ?_
    refine bnd hD (fun v3 hx hD => ?_)
    refine ax_Wp.jn (F := (48, [some (.ref 2), none, none, none, some (.int (rI m 2 4))], [])) (hh := stt v3) ?_ (fun kkv3 => ?_)
    · refine ax_Wp.go (f' := (58, [some (.ref 2), none, none, none, some (.int (rI m 2 4))], [.int ((rI v3 2 3) ||| ((nI 1) <<< ((rI m 2 4) &&& nI 31))), .ref 2])) 7 rfl ?_
      refine ax_Wp.ptI hD rfl rfl rfl (fun m5 hD => ?_)
      refine ax_Wp.go (f' := (68, [some (.ref 2), none, none, none, some (.int (rI m 2 4))], [.int ((rI m5 2 4) + (nI 1)), .ref 2])) 5 rfl ?_
      refine ax_Wp.ptI hD rfl rfl rfl (fun m6 hD => ?_)
      refine ax_Wp.go (f' := (73, [some (.ref 2), none, none, none, some (.int (rI m 2 4))], [.int (rI m 2 4)])) 1 rfl ?_
      obtain rfl := inj hD
      exact ax_Wp.ret rfl ⟨rfl, rfl⟩
    clear hD
    have hD := hx
    clear hx
    refine ax_Wp.brD hD rfl (fun _ hD => ?_) (fun _ hD => ?_)
    · obtain rfl := inj hD
      exact ax_Wp.dead kkv3 ⟨.inl rfl, ⟨.inr ⟨rfl, trivial⟩, ⟨.inr ⟨rfl, trivial⟩, ⟨.inr ⟨rfl, trivial⟩, ⟨.inl rfl, trivial⟩⟩⟩⟩⟩
    · refine ax_Wp.go (f' := (45, [some (.ref 2), some (.int p0), some (.int p1), some (.int p2), some (.int (rI m 2 4))], [.int ((rI m2 2 2) ||| ((nI 1) <<< ((rI m 2 4) &&& nI 31))), .ref 2])) 7 rfl ?_
      refine ax_Wp.ptI hD rfl rfl rfl (fun m4 hD => ?_)
      obtain rfl := inj hD
      exact ax_Wp.dead kkv3 ⟨.inl rfl, ⟨.inr ⟨rfl, trivial⟩, ⟨.inr ⟨rfl, trivial⟩, ⟨.inr ⟨rfl, trivial⟩, ⟨.inl rfl, trivial⟩⟩⟩⟩⟩
  · refine ax_Wp.go (f' := (14, [some (.ref 2), some (.int p0), some (.int p1), some (.int p2), some (.int (rI m 2 4))], [.int (-1)])) 1 rfl ?_
    obtain rfl := inj hD
    exact ax_Wp.ret rfl ⟨rfl, rfl⟩
def D70 (m : dM) (p0 : Int32) (p1 : Int32) (p2 : Int32) : Option ((Int32 ⊕ Nat) × dM) := cT (D123 p0) m (fun (x1 : Unit) => cT (D123 p1) m (fun (x4 : Unit) => if p0 = p1 then some (.inr 1, (bump m)) else if (nI 24) ≤ (rI m 2 4) then some (.inr 2, (bump m)) else (D60 m p0 p1).bind fun (x7 : Int32) => if x7 = (-1) then (D131 m).bind fun (r8 : dM) => (D61 r8 p0 p1 p2).bind fun (r9 : Int32 × dM) => some (.inl r9.1, r9.2) else some (.inr 2, (bump m))) (fun (j5 : Nat) (m6 : dM) => some (.inr j5, m6))) (fun (j2 : Nat) (m3 : dM) => some (.inr j2, m3))
set_option maxRecDepth 20000 in
theorem w_70 {X : Nat × (Nat → Int32)} {d : Nat} {m : dM} {p0 : Int32} {p1 : Int32} {p2 : Int32} {r : (Int32 ⊕ Nat) × dM} (hD : D70 m p0 p1 p2 = some r) : ax_Ev X (d + 7) 70 [.ref 0, .int p0, .int p1, .int p2] (stt m) (oT (fun x => some (.int x)) r.1) (stt r.2) := by
  unfold D70 at hD
  show ax_Wp X (d + 6 + 1) 70 (0, [some (.ref 0), some (.int p0), some (.int p1), some (.int p2)], []) (stt m) _
  refine ax_Wp.go (f' := (1, [some (.ref 0), some (.int p0), some (.int p1), some (.int p2)], [.int p0])) 1 rfl ?_
  refine cT.sp hD (fun x1 hx hD => ?_) (fun j2 hx hD => ?_)
  · refine ax_Wp.callE (f' := (4, [some (.ref 0), some (.int p0), some (.int p1), some (.int p2)], [])) rfl rfl (w_123 (d := d + 0) hx) rfl ?_
    refine ax_Wp.go (f' := (5, [some (.ref 0), some (.int p0), some (.int p1), some (.int p2)], [.int p1])) 1 rfl ?_
    refine cT.sp hD (fun x4 hx hD => ?_) (fun j5 hx hD => ?_)
    · refine ax_Wp.callE (f' := (8, [some (.ref 0), some (.int p0), some (.int p1), some (.int p2)], [])) rfl rfl (w_123 (d := d + 0) hx) rfl ?_
      refine ax_Wp.go (f' := (10, [some (.ref 0), some (.int p0), some (.int p1), some (.int p2)], [.int p1, .int p0])) 2 rfl ?_
      refine ax_Wp.brD hD rfl (fun _ hD => ?_) (fun _ hD => ?_)
      · obtain rfl := inj hD
        exact ax_Wp.thr rfl (ax_six _ rfl) ⟨rfl, rfl⟩
      · refine ax_Wp.go (f' := (35, [some (.ref 0), some (.int p0), some (.int p1), some (.int p2)], [.int (nI 24), .int (rI m 2 4)])) 5 rfl ?_
        refine ax_Wp.brD hD rfl (fun _ hD => ?_) (fun _ hD => ?_)
        · obtain rfl := inj hD
          exact ax_Wp.thr rfl (ax_six _ rfl) ⟨rfl, rfl⟩
        · refine ax_Wp.go (f' := (47, [some (.ref 0), some (.int p0), some (.int p1), some (.int p2)], [.int p1, .int p0, .ref 2])) 5 rfl ?_
          refine bnd hD (fun x7 hx hD => ?_)
          refine ax_Wp.callE (f' := (50, [some (.ref 0), some (.int p0), some (.int p1), some (.int p2)], [])) rfl rfl (w_60 (d := d + 5) hx) rfl ?_
          refine ax_Wp.go (f' := (51, [some (.ref 0), some (.int p0), some (.int p1), some (.int p2)], [.int (-1), .int x7])) 1 rfl ?_
          refine ax_Wp.brD hD rfl (fun _ hD => ?_) (fun _ hD => ?_)
          · refine ax_Wp.go (f' := (65, [some (.ref 0), some (.int p0), some (.int p1), some (.int p2)], [.ref 0])) 1 rfl ?_
            refine bnd hD (fun r8 hx hD => ?_)
            refine ax_Wp.callE (f' := (68, [some (.ref 0), some (.int p0), some (.int p1), some (.int p2)], [])) rfl rfl (w_131 (d := d + 3) hx) rfl ?_
            refine ax_Wp.go (f' := (78, [some (.ref 0), some (.int p0), some (.int p1), some (.int p2)], [.int p2, .int p1, .int p0, .ref 2])) 6 rfl ?_
            refine bnd hD (fun r9 hx hD => ?_)
            refine ax_Wp.callE (f' := (81, [some (.ref 0), some (.int p0), some (.int p1), some (.int p2)], [])) rfl rfl (w_61 (d := d + 5) hx) rfl ?_
            obtain rfl := inj hD
            exact ax_Wp.ret rfl ⟨rfl, rfl⟩
          · obtain rfl := inj hD
            exact ax_Wp.thr rfl (ax_six _ rfl) ⟨rfl, rfl⟩
    · obtain rfl := inj hD
      exact ax_Wp.callX (f' := (8, [some (.ref 0), some (.int p0), some (.int p1), some (.int p2)], [])) rfl rfl (w_123 (d := d + 0) hx) rfl ⟨rfl, rfl⟩
  · obtain rfl := inj hD
    exact ax_Wp.callX (f' := (4, [some (.ref 0), some (.int p0), some (.int p1), some (.int p2)], [])) rfl rfl (w_123 (d := d + 0) hx) rfl ⟨rfl, rfl⟩
def D245 (m : dM) (p0 : Int32) (p1 : Int32) (p2 : Int32) : Option (Int32 × dM) := cG (D70 m p0 p1 p2) (fun (x1 : Int32) (m4 : dM) => (sL m4 138 1 (nI 0) x1.toInt64).bind fun (m5 : dM) => some (nI 0, m5)) (fun (j2 : Nat) (m3 : dM) => if j2 = 0 then some (nI 1, m3) else if j2 = 1 then some (nI 2, m3) else if j2 = 2 then some (nI 3, m3) else none)
set_option maxRecDepth 20000 in
theorem w_245 {X : Nat × (Nat → Int32)} {d : Nat} {m : dM} {p0 : Int32} {p1 : Int32} {p2 : Int32} {r : Int32 × dM} (hD : D245 m p0 p1 p2 = some r) : ax_Ev X (d + 8) 245 [.ref 0, .int p0, .int p1, .int p2, .ref 138] (stt m) (.inl (some (.int r.1))) (stt r.2) := by
  unfold D245 at hD
  show ax_Wp X (d + 7 + 1) 245 (0, [some (.ref 0), some (.int p0), some (.int p1), some (.int p2), some (.ref 138), none], []) (stt m) _
  refine ax_Wp.go (f' := (7, [some (.ref 0), some (.int p0), some (.int p1), some (.int p2), some (.ref 138), none], [.int p2, .int p1, .int p0, .ref 0, .int (nI 0), .ref 138])) 6 rfl ?_
  refine cG.sp hD (fun x1 m4 hx hD => ?_) (fun j2 m3 hx hD => ?_)
  · refine ax_Wp.callE (f' := (10, [some (.ref 0), some (.int p0), some (.int p1), some (.int p2), some (.ref 138), none], [.int (nI 0), .ref 138])) rfl rfl (w_70 (d := d + 0) hx) rfl ?_
    refine ax_Wp.go (f' := (11, [some (.ref 0), some (.int p0), some (.int p1), some (.int p2), some (.ref 138), none], [.long x1.toInt64, .int (nI 0), .ref 138])) 1 rfl ?_
    refine ax_Wp.wrL hD rfl rfl (fun _ => rfl) (fun m5 hD => ?_)
    refine ax_Wp.go (f' := (28, [some (.ref 0), some (.int p0), some (.int p1), some (.int p2), some (.ref 138), none], [.int (nI 0)])) 2 rfl ?_
    obtain rfl := inj hD
    exact ax_Wp.ret rfl ⟨rfl, rfl⟩
  · refine swD hD (fun e hD => ?_) (fun _ hD => ?_)
    · cases e
      refine ax_Wp.callH (f' := (10, [some (.ref 0), some (.int p0), some (.int p1), some (.int p2), some (.ref 138), none], [.int (nI 0), .ref 138])) (pc2 := 17) (i := 5) rfl rfl (w_70 (d := d + 0) hx) rfl rfl rfl ?_
      refine ax_Wp.go (f' := (18, [some (.ref 0), some (.int p0), some (.int p1), some (.int p2), some (.ref 138), none], [.int (nI 1)])) 1 rfl ?_
      obtain rfl := inj hD
      exact ax_Wp.ret rfl ⟨rfl, rfl⟩
    refine swD hD (fun e hD => ?_) (fun _ hD => ?_)
    · cases e
      refine ax_Wp.callH (f' := (10, [some (.ref 0), some (.int p0), some (.int p1), some (.int p2), some (.ref 138), none], [.int (nI 0), .ref 138])) (pc2 := 21) (i := 5) rfl rfl (w_70 (d := d + 0) hx) rfl rfl rfl ?_
      refine ax_Wp.go (f' := (22, [some (.ref 0), some (.int p0), some (.int p1), some (.int p2), some (.ref 138), none], [.int (nI 2)])) 1 rfl ?_
      obtain rfl := inj hD
      exact ax_Wp.ret rfl ⟨rfl, rfl⟩
    refine swD hD (fun e hD => ?_) (fun _ hD => ?_)
    · cases e
      refine ax_Wp.callH (f' := (10, [some (.ref 0), some (.int p0), some (.int p1), some (.int p2), some (.ref 138), none], [.int (nI 0), .ref 138])) (pc2 := 25) (i := 5) rfl rfl (w_70 (d := d + 0) hx) rfl rfl rfl ?_
      refine ax_Wp.go (f' := (26, [some (.ref 0), some (.int p0), some (.int p1), some (.int p2), some (.ref 138), none], [.int (nI 3)])) 1 rfl ?_
      obtain rfl := inj hD
      exact ax_Wp.ret rfl ⟨rfl, rfl⟩
    cases hD
