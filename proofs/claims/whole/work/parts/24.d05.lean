/-! WHAT METHODS DO, printed of their bytecode: 5 -/
def D20 (m : dM) (p0 : Int32) : Option (Int32 × dM) := Option.bind ((if p0 < (nI 0) then some (nI 0) else if (rI m 42 1) ≤ p0 then some (nI 0) else (gI m 43 60 p0).bind fun (x2 : Int32) => some x2) : Option (Int32)) fun (v1 : Int32) => (fI m 42 2 v1).bind fun (m3 : dM) => (fI m3 42 3 (nI 0)).bind fun (m4 : dM) => Option.bind (lp (β := Int32 × Int32 × dM) 3000 (fun (s5 : Int32 × Int32 × Int32 × dM) => if s5.2.2.1 ≤ (nI 0) then some (.inr (s5.1, s5.2.1, s5.2.2.2)) else if (rI s5.2.2.2 42 1) ≤ s5.2.2.1 then some (.inr (s5.1, s5.2.1, s5.2.2.2)) else (gI s5.2.2.2 43 60 s5.2.2.1).bind fun (x7 : Int32) => if x7 = (nI 59) then some (.inr (s5.1, s5.2.1, s5.2.2.2)) else (gI s5.2.2.2 43 60 s5.2.2.1).bind fun (x8 : Int32) => Option.bind ((if x8 = (nI 62) then (fI s5.2.2.2 42 3 s5.1).bind fun (m10 : dM) => some (nI 0, m10) else (gI s5.2.2.2 43 60 s5.2.2.1).bind fun (x11 : Int32) => some ((((nI 10) * s5.1) + x11) - (nI 48), s5.2.2.2)) : Option (Int32 × dM)) fun (v9 : Int32 × dM) => some (.inl (v9.1, s5.2.2.1 + (nI 1), s5.2.2.1 + (nI 1), v9.2))) (nI 0, p0 + (nI 1), p0 + (nI 1), m4)) fun (v6 : Int32 × Int32 × dM) => Option.bind ((if (rI v6.2.2 42 2) = (nI 115) then (fI v6.2.2 42 3 v6.1).bind fun (m13 : dM) => some m13 else some v6.2.2) : Option (dM)) fun (v12 : dM) => (fI v12 42 4 v6.1).bind fun (m14 : dM) => some (v6.2.1 + (nI 1), m14)
set_option maxRecDepth 20000 in
theorem w_20 {X : Nat × (Nat → Int32)} {d : Nat} {m : dM} {p0 : Int32} {r : Int32 × dM} (hD : D20 m p0 = some r) : ax_Ev X (d + 1) 20 [.ref 42, .int p0] (stt m) (.inl (some (.int r.1))) (stt r.2) := by
  unfold D20 at hD
  show ax_Wp X (d + 0 + 1) 20 (0, [some (.ref 42), some (.int p0), none, none, none], []) (stt m) _
  refine ax_Wp.go (f' := (8, [some (.ref 42), some (.int p0), some (.int (nI 0)), some (.int (p0 + (nI 1))), none], [.int p0, .ref 42])) 8 rfl ?_
  refine bnd hD (fun v1 hx hD => ?_)
  refine ax_Wp.jn (F := (29, [some (.ref 42), some (.int p0), some (.int (nI 0)), some (.int (p0 + (nI 1))), none], [.int v1, .ref 42])) (hh := stt m) ?_ (fun kkv1 => ?_)
  · refine ax_Wp.ptI hD rfl rfl rfl (fun m3 hD => ?_)
    refine ax_Wp.go (f' := (34, [some (.ref 42), some (.int p0), some (.int (nI 0)), some (.int (p0 + (nI 1))), none], [.int (nI 0), .ref 42])) 2 rfl ?_
    refine ax_Wp.ptI hD rfl rfl rfl (fun m4 hD => ?_)
    refine ax_Wp.go (f' := (42, [some (.ref 42), some (.int p0), some (.int (nI 0)), some (.int (p0 + (nI 1))), some (.int (p0 + (nI 1)))], [])) 4 rfl ?_
    refine bnd hD (fun v6 hx hD => ?_)
    refine ax_Wp.jn (F := (117, [some (.ref 42), none, some (.int v6.1), some (.int v6.2.1), none], [])) (hh := stt v6.2.2) ?_ (fun kkv6 => ?_)
    · refine ax_Wp.go (f' := (123, [some (.ref 42), none, some (.int v6.1), some (.int v6.2.1), none], [.int (nI 115), .int (rI v6.2.2 42 2)])) 3 rfl ?_
      refine bnd hD (fun v12 hx hD => ?_)
      refine ax_Wp.jn (F := (131, [some (.ref 42), none, some (.int v6.1), some (.int v6.2.1), none], [])) (hh := stt v12) ?_ (fun kkv12 => ?_)
      · refine ax_Wp.go (f' := (133, [some (.ref 42), none, some (.int v6.1), some (.int v6.2.1), none], [.int v6.1, .ref 42])) 2 rfl ?_
        refine ax_Wp.ptI hD rfl rfl rfl (fun m14 hD => ?_)
        refine ax_Wp.go (f' := (139, [some (.ref 42), none, some (.int v6.1), some (.int v6.2.1), none], [.int (v6.2.1 + (nI 1))])) 3 rfl ?_
        obtain rfl := inj hD
        exact ax_Wp.ret rfl ⟨rfl, rfl⟩
      clear hD
      have hD := hx
      clear hx
      refine ax_Wp.brD hD rfl (fun _ hD => ?_) (fun _ hD => ?_)
      · refine ax_Wp.go (f' := (128, [some (.ref 42), none, some (.int v6.1), some (.int v6.2.1), none], [.int v6.1, .ref 42])) 2 rfl ?_
        refine ax_Wp.ptI hD rfl rfl rfl (fun m13 hD => ?_)
        obtain rfl := inj hD
        exact kkv12
      · obtain rfl := inj hD
        exact kkv12
    clear hD
    refine ax_Wp.dead (L := [some (.ref 42), none, some (.int (nI 0)), some (.int (p0 + (nI 1))), some (.int (p0 + (nI 1)))]) ?_ ⟨.inl rfl, ⟨.inr ⟨rfl, trivial⟩, ⟨.inl rfl, ⟨.inl rfl, ⟨.inl rfl, trivial⟩⟩⟩⟩⟩
    refine ax_Wp.lpD (fun (s5 : Int32 × Int32 × Int32 × dM) => ((42, [some (.ref 42), none, some (.int s5.1), some (.int s5.2.1), some (.int s5.2.2.1)], []), stt s5.2.2.2)) ?_ hx
    clear hx
    intro s5 v hD ks5
    refine ax_Wp.go (f' := (44, [some (.ref 42), none, some (.int s5.1), some (.int s5.2.1), some (.int s5.2.2.1)], [.int s5.2.2.1])) 1 rfl ?_
    refine ax_Wp.brD hD rfl (fun _ hD => ?_) (fun _ hD => ?_)
    · obtain rfl := inj hD
      obtain rfl := ks5.o
      exact ax_Wp.dead kkv6 ⟨.inl rfl, ⟨.inl rfl, ⟨.inl rfl, ⟨.inl rfl, ⟨.inr ⟨rfl, trivial⟩, trivial⟩⟩⟩⟩⟩
    · refine ax_Wp.go (f' := (53, [some (.ref 42), none, some (.int s5.1), some (.int s5.2.1), some (.int s5.2.2.1)], [.int (rI s5.2.2.2 42 1), .int s5.2.2.1])) 3 rfl ?_
      refine ax_Wp.brD hD rfl (fun _ hD => ?_) (fun _ hD => ?_)
      · obtain rfl := inj hD
        obtain rfl := ks5.o
        exact ax_Wp.dead kkv6 ⟨.inl rfl, ⟨.inl rfl, ⟨.inl rfl, ⟨.inl rfl, ⟨.inr ⟨rfl, trivial⟩, trivial⟩⟩⟩⟩⟩
      · refine ax_Wp.go (f' := (62, [some (.ref 42), none, some (.int s5.1), some (.int s5.2.1), some (.int s5.2.2.1)], [.int s5.2.2.1, .ref 43])) 3 rfl ?_
        refine ax_Wp.rdI hD rfl rfl rfl (fun x7 hD => ?_)
        refine ax_Wp.go (f' := (65, [some (.ref 42), none, some (.int s5.1), some (.int s5.2.1), some (.int s5.2.2.1)], [.int (nI 59), .int x7])) 1 rfl ?_
        refine ax_Wp.brD hD rfl (fun _ hD => ?_) (fun _ hD => ?_)
        · obtain rfl := inj hD
          obtain rfl := ks5.o
          exact ax_Wp.dead kkv6 ⟨.inl rfl, ⟨.inl rfl, ⟨.inl rfl, ⟨.inl rfl, ⟨.inr ⟨rfl, trivial⟩, trivial⟩⟩⟩⟩⟩
        · refine ax_Wp.go (f' := (74, [some (.ref 42), none, some (.int s5.1), some (.int s5.2.1), some (.int s5.2.2.1)], [.int s5.2.2.1, .ref 43])) 3 rfl ?_
          refine ax_Wp.rdI hD rfl rfl rfl (fun x8 hD => ?_)
          refine ax_Wp.go (f' := (77, [some (.ref 42), none, some (.int s5.1), some (.int s5.2.1), some (.int s5.2.2.1)], [.int (nI 62), .int x8])) 1 rfl ?_
          refine bnd hD (fun v9 hx hD => ?_)
          refine ax_Wp.jn (F := (106, [some (.ref 42), none, some (.int v9.1), none, some (.int s5.2.2.1)], [])) (hh := stt v9.2) ?_ (fun kkv9 => ?_)
          · refine ax_Wp.go (f' := (42, [some (.ref 42), none, some (.int v9.1), some (.int (s5.2.2.1 + (nI 1))), some (.int (s5.2.2.1 + (nI 1)))], [])) 6 rfl ?_
            obtain rfl := inj hD
            exact ks5.i
          clear hD
          have hD := hx
          clear hx
          refine ax_Wp.brD hD rfl (fun _ hD => ?_) (fun _ hD => ?_)
          · refine ax_Wp.go (f' := (82, [some (.ref 42), none, some (.int s5.1), some (.int s5.2.1), some (.int s5.2.2.1)], [.int s5.1, .ref 42])) 2 rfl ?_
            refine ax_Wp.ptI hD rfl rfl rfl (fun m10 hD => ?_)
            refine ax_Wp.go (f' := (106, [some (.ref 42), none, some (.int (nI 0)), some (.int s5.2.1), some (.int s5.2.2.1)], [])) 3 rfl ?_
            obtain rfl := inj hD
            exact ax_Wp.dead kkv9 ⟨.inl rfl, ⟨.inl rfl, ⟨.inl rfl, ⟨.inr ⟨rfl, trivial⟩, ⟨.inl rfl, trivial⟩⟩⟩⟩⟩
          · refine ax_Wp.go (f' := (100, [some (.ref 42), none, some (.int s5.1), some (.int s5.2.1), some (.int s5.2.2.1)], [.int s5.2.2.1, .ref 43, .int ((nI 10) * s5.1)])) 6 rfl ?_
            refine ax_Wp.rdI hD rfl rfl rfl (fun x11 hD => ?_)
            refine ax_Wp.go (f' := (106, [some (.ref 42), none, some (.int ((((nI 10) * s5.1) + x11) - (nI 48))), some (.int s5.2.1), some (.int s5.2.2.1)], [])) 4 rfl ?_
            obtain rfl := inj hD
            exact ax_Wp.dead kkv9 ⟨.inl rfl, ⟨.inl rfl, ⟨.inl rfl, ⟨.inr ⟨rfl, trivial⟩, ⟨.inl rfl, trivial⟩⟩⟩⟩⟩
  clear hD
  have hD := hx
  clear hx
  refine ax_Wp.brD hD rfl (fun _ hD => ?_) (fun _ hD => ?_)
  · refine ax_Wp.go (f' := (29, [some (.ref 42), some (.int p0), some (.int (nI 0)), some (.int (p0 + (nI 1))), none], [.int (nI 0), .ref 42])) 1 rfl ?_
    obtain rfl := inj hD
    exact kkv1
  · refine ax_Wp.go (f' := (16, [some (.ref 42), some (.int p0), some (.int (nI 0)), some (.int (p0 + (nI 1))), none], [.int (rI m 42 1), .int p0, .ref 42])) 3 rfl ?_
    refine ax_Wp.brD hD rfl (fun _ hD => ?_) (fun _ hD => ?_)
    · refine ax_Wp.go (f' := (29, [some (.ref 42), some (.int p0), some (.int (nI 0)), some (.int (p0 + (nI 1))), none], [.int (nI 0), .ref 42])) 1 rfl ?_
      obtain rfl := inj hD
      exact kkv1
    · refine ax_Wp.go (f' := (24, [some (.ref 42), some (.int p0), some (.int (nI 0)), some (.int (p0 + (nI 1))), none], [.int p0, .ref 43, .ref 42])) 3 rfl ?_
      refine ax_Wp.rdI hD rfl rfl rfl (fun x2 hD => ?_)
      refine ax_Wp.go (f' := (29, [some (.ref 42), some (.int p0), some (.int (nI 0)), some (.int (p0 + (nI 1))), none], [.int x2, .ref 42])) 1 rfl ?_
      obtain rfl := inj hD
      exact kkv1
def D133 (m : dM) : Option (Int32 × dM) := if (rI m 42 2) = nI 111 then (D59 m (rI m 42 4)).bind fun (x1 : Int32) => if x1 = (nI 0) then some (nI 0, m) else (D51 m (rI m 42 3) (rI m 42 4)).bind fun (x2 : Int32) => if x2 = (nI 0) then (D50 m (rI m 42 3) (rI m 42 4)).bind fun (r3 : Int32 × dM) => some (nI 1, r3.2) else some (nI 0, m) else if (rI m 42 2) = nI 115 then (D4 m (rI m 42 3)).bind fun (r4 : Int32 × dM) => some (nI 1, r4.2) else if (rI m 42 2) = nI 116 then (D59 m (rI m 42 4)).bind fun (x5 : Int32) => if x5 = (nI 0) then some (nI 0, m) else (D47 m (rI m 42 4)).bind fun (r6 : Int32 × dM) => some (nI 1, r6.2) else (D44 m).bind fun (x7 : Int32) => if x7 = (nI 0) then (D52 m).bind fun (r8 : Int32 × dM) => some (nI 1, r8.2) else some (nI 0, m)
set_option maxRecDepth 20000 in
theorem w_133 {X : Nat × (Nat → Int32)} {d : Nat} {m : dM} {r : Int32 × dM} (hD : D133 m = some r) : ax_Ev X (d + 5) 133 [.ref 0] (stt m) (.inl (some (.int r.1))) (stt r.2) := by
  unfold D133 at hD
  show ax_Wp X (d + 4 + 1) 133 (0, [some (.ref 0)], []) (stt m) _
  refine ax_Wp.go (f' := (7, [some (.ref 0)], [.int (rI m 42 2)])) 3 rfl ?_
  refine swD hD (fun q111 hD => ?_) (fun q111 hD => ?_)
  · refine ax_Wp.eqx q111 ?_
    refine ax_Wp.go (f' := (40, [some (.ref 0)], [])) 1 rfl ?_
    refine ax_Wp.go (f' := (54, [some (.ref 0)], [.int (rI m 42 4), .ref 2])) 6 rfl ?_
    refine bnd hD (fun x1 hx hD => ?_)
    refine ax_Wp.callE (f' := (57, [some (.ref 0)], [])) rfl rfl (w_59 (d := d + 3) hx) rfl ?_
    refine ax_Wp.brD hD rfl (fun _ hD => ?_) (fun _ hD => ?_)
    · refine ax_Wp.go (f' := (85, [some (.ref 0)], [.int (nI 0)])) 1 rfl ?_
      obtain rfl := inj hD
      exact ax_Wp.ret rfl ⟨rfl, rfl⟩
    · refine ax_Wp.go (f' := (78, [some (.ref 0)], [.int (rI m 42 4), .int (rI m 42 3), .ref 1])) 8 rfl ?_
      refine bnd hD (fun x2 hx hD => ?_)
      refine ax_Wp.callE (f' := (81, [some (.ref 0)], [])) rfl rfl (w_51 (d := d + 1) hx) rfl ?_
      refine ax_Wp.brD hD rfl (fun _ hD => ?_) (fun _ hD => ?_)
      · refine ax_Wp.go (f' := (104, [some (.ref 0)], [.int (rI m 42 4), .int (rI m 42 3), .ref 1])) 8 rfl ?_
        refine bnd hD (fun r3 hx hD => ?_)
        refine ax_Wp.callE (f' := (107, [some (.ref 0)], [])) rfl rfl (w_50 (d := d + 2) hx) rfl ?_
        refine ax_Wp.go (f' := (109, [some (.ref 0)], [.int (nI 1)])) 2 rfl ?_
        obtain rfl := inj hD
        exact ax_Wp.ret rfl ⟨rfl, rfl⟩
      · refine ax_Wp.go (f' := (85, [some (.ref 0)], [.int (nI 0)])) 1 rfl ?_
        obtain rfl := inj hD
        exact ax_Wp.ret rfl ⟨rfl, rfl⟩
  refine swD hD (fun q115 hD => ?_) (fun q115 hD => ?_)
  · refine ax_Wp.eqx q115 ?_
    refine ax_Wp.go (f' := (110, [some (.ref 0)], [])) 1 rfl ?_
    refine ax_Wp.go (f' := (124, [some (.ref 0)], [.int (rI m 42 3), .ref 5])) 6 rfl ?_
    refine bnd hD (fun r4 hx hD => ?_)
    refine ax_Wp.callE (f' := (127, [some (.ref 0)], [])) rfl rfl (w_4 (d := d + 2) hx) rfl ?_
    refine ax_Wp.go (f' := (129, [some (.ref 0)], [.int (nI 1)])) 2 rfl ?_
    obtain rfl := inj hD
    exact ax_Wp.ret rfl ⟨rfl, rfl⟩
  refine swD hD (fun q116 hD => ?_) (fun q116 hD => ?_)
  · refine ax_Wp.eqx q116 ?_
    refine ax_Wp.go (f' := (130, [some (.ref 0)], [])) 1 rfl ?_
    refine ax_Wp.go (f' := (144, [some (.ref 0)], [.int (rI m 42 4), .ref 2])) 6 rfl ?_
    refine bnd hD (fun x5 hx hD => ?_)
    refine ax_Wp.callE (f' := (147, [some (.ref 0)], [])) rfl rfl (w_59 (d := d + 3) hx) rfl ?_
    refine ax_Wp.brD hD rfl (fun _ hD => ?_) (fun _ hD => ?_)
    · refine ax_Wp.go (f' := (151, [some (.ref 0)], [.int (nI 0)])) 1 rfl ?_
      obtain rfl := inj hD
      exact ax_Wp.ret rfl ⟨rfl, rfl⟩
    · refine ax_Wp.go (f' := (163, [some (.ref 0)], [.int (rI m 42 4), .ref 1])) 5 rfl ?_
      refine bnd hD (fun r6 hx hD => ?_)
      refine ax_Wp.callE (f' := (166, [some (.ref 0)], [])) rfl rfl (w_47 (d := d + 2) hx) rfl ?_
      refine ax_Wp.go (f' := (168, [some (.ref 0)], [.int (nI 1)])) 2 rfl ?_
      obtain rfl := inj hD
      exact ax_Wp.ret rfl ⟨rfl, rfl⟩
  refine ax_Wp.st (f' := (169, [some (.ref 0)], [])) (ax_lsw3 rfl rfl rfl q111 q115 q116) ?_
  refine ax_Wp.go (f' := (173, [some (.ref 0)], [.ref 1])) 2 rfl ?_
  refine bnd hD (fun x7 hx hD => ?_)
  refine ax_Wp.callE (f' := (176, [some (.ref 0)], [])) rfl rfl (w_44 (d := d + 2) hx) rfl ?_
  refine ax_Wp.brD hD rfl (fun _ hD => ?_) (fun _ hD => ?_)
  · refine ax_Wp.go (f' := (189, [some (.ref 0)], [.ref 36, .ref 1])) 4 rfl ?_
    refine bnd hD (fun r8 hx hD => ?_)
    refine ax_Wp.callE (f' := (192, [some (.ref 0)], [])) rfl rfl (w_52 (d := d + 0) hx) rfl ?_
    refine ax_Wp.go (f' := (194, [some (.ref 0)], [.int (nI 1)])) 2 rfl ?_
    obtain rfl := inj hD
    exact ax_Wp.ret rfl ⟨rfl, rfl⟩
  · refine ax_Wp.go (f' := (180, [some (.ref 0)], [.int (nI 0)])) 1 rfl ?_
    obtain rfl := inj hD
    exact ax_Wp.ret rfl ⟨rfl, rfl⟩
def D132 (m : dM) : Option (Int32 × dM) := (fI m 1 9 (-1)).bind fun (m1 : dM) => lp (β := Int32 × dM) 3000 (fun (s2 : Int32 × Int32 × dM) => if (nI 60) ≤ s2.2.1 then some (.inr (s2.2.1, s2.2.2)) else if (rI s2.2.2 42 1) ≤ s2.1 then some (.inr (s2.2.1, s2.2.2)) else (D20 s2.2.2 s2.1).bind fun (r3 : Int32 × dM) => (D133 r3.2).bind fun (r4 : Int32 × dM) => if r4.1 = (nI 0) then (fI r4.2 1 9 s2.2.1).bind fun (m5 : dM) => some (.inr (s2.2.1, m5)) else some (.inl (r3.1, s2.2.1 + (nI 1), r4.2))) (nI 0, nI 0, m1)
set_option maxRecDepth 20000 in
theorem w_132 {X : Nat × (Nat → Int32)} {d : Nat} {m : dM} {r : Int32 × dM} (hD : D132 m = some r) : ax_Ev X (d + 6) 132 [.ref 0] (stt m) (.inl (some (.int r.1))) (stt r.2) := by
  unfold D132 at hD
  show ax_Wp X (d + 5 + 1) 132 (0, [some (.ref 0), none, none], []) (stt m) _
  refine ax_Wp.go (f' := (9, [some (.ref 0), some (.int (nI 0)), some (.int (nI 0))], [.int (-1), .ref 1])) 7 rfl ?_
  refine ax_Wp.ptI hD rfl rfl rfl (fun m1 hD => ?_)
  refine ax_Wp.lpD (fun (s2 : Int32 × Int32 × dM) => ((12, [some (.ref 0), some (.int s2.1), some (.int s2.2.1)], []), stt s2.2.2)) ?_ hD
  clear hD
  intro s2 v hD ks2
  refine ax_Wp.go (f' := (15, [some (.ref 0), some (.int s2.1), some (.int s2.2.1)], [.int (nI 60), .int s2.2.1])) 2 rfl ?_
  refine ax_Wp.brD hD rfl (fun _ hD => ?_) (fun _ hD => ?_)
  · refine ax_Wp.go (f' := (62, [some (.ref 0), some (.int s2.1), some (.int s2.2.1)], [.int s2.2.1])) 1 rfl ?_
    obtain rfl := inj hD
    obtain rfl := ks2.o
    exact ax_Wp.ret rfl ⟨rfl, rfl⟩
  · refine ax_Wp.go (f' := (26, [some (.ref 0), some (.int s2.1), some (.int s2.2.1)], [.int (rI s2.2.2 42 1), .int s2.1])) 4 rfl ?_
    refine ax_Wp.brD hD rfl (fun _ hD => ?_) (fun _ hD => ?_)
    · refine ax_Wp.go (f' := (62, [some (.ref 0), some (.int s2.1), some (.int s2.2.1)], [.int s2.2.1])) 1 rfl ?_
      obtain rfl := inj hD
      obtain rfl := ks2.o
      exact ax_Wp.ret rfl ⟨rfl, rfl⟩
    · refine ax_Wp.go (f' := (34, [some (.ref 0), some (.int s2.1), some (.int s2.2.1)], [.int s2.1, .ref 42])) 3 rfl ?_
      refine bnd hD (fun r3 hx hD => ?_)
      refine ax_Wp.callE (f' := (37, [some (.ref 0), some (.int s2.1), some (.int s2.2.1)], [])) rfl rfl (w_20 (d := d + 4) hx) rfl ?_
      refine ax_Wp.go (f' := (39, [some (.ref 0), some (.int r3.1), some (.int s2.2.1)], [.ref 0])) 2 rfl ?_
      refine bnd hD (fun r4 hx hD => ?_)
      refine ax_Wp.callE (f' := (42, [some (.ref 0), some (.int r3.1), some (.int s2.2.1)], [])) rfl rfl (w_133 (d := d + 0) hx) rfl ?_
      refine ax_Wp.brD hD rfl (fun _ hD => ?_) (fun _ hD => ?_)
      · refine ax_Wp.go (f' := (50, [some (.ref 0), some (.int r3.1), some (.int s2.2.1)], [.int s2.2.1, .ref 1])) 3 rfl ?_
        refine ax_Wp.ptI hD rfl rfl rfl (fun m5 hD => ?_)
        refine ax_Wp.go (f' := (54, [some (.ref 0), some (.int r3.1), some (.int s2.2.1)], [.int s2.2.1])) 1 rfl ?_
        obtain rfl := inj hD
        obtain rfl := ks2.o
        exact ax_Wp.ret rfl ⟨rfl, rfl⟩
      · refine ax_Wp.go (f' := (12, [some (.ref 0), some (.int r3.1), some (.int (s2.2.1 + (nI 1)))], [])) 2 rfl ?_
        obtain rfl := inj hD
        exact ks2.i
def D12 (m : dM) : Option (Int32 × dM) := (fI m 42 1 (nI 0)).bind fun (m1 : dM) => some (rI m 42 1, m1)
set_option maxRecDepth 20000 in
theorem w_12 {X : Nat × (Nat → Int32)} {d : Nat} {m : dM} {r : Int32 × dM} (hD : D12 m = some r) : ax_Ev X (d + 1) 12 [.ref 42] (stt m) (.inl (some (.int r.1))) (stt r.2) := by
  unfold D12 at hD
  show ax_Wp X (d + 0 + 1) 12 (0, [some (.ref 42), none], []) (stt m) _
  refine ax_Wp.go (f' := (7, [some (.ref 42), some (.int (rI m 42 1))], [.int (nI 0), .ref 42])) 5 rfl ?_
  refine ax_Wp.ptI hD rfl rfl rfl (fun m1 hD => ?_)
  refine ax_Wp.go (f' := (11, [some (.ref 42), some (.int (rI m 42 1))], [.int (rI m 42 1)])) 1 rfl ?_
  obtain rfl := inj hD
  exact ax_Wp.ret rfl ⟨rfl, rfl⟩
def D83 (m : dM) : Option ((Int32 ⊕ Nat) × dM) := (D14 m).bind fun (x1 : Int32) => if x1 = (nI 0) then some (.inr 1, (bump m)) else (D131 m).bind fun (r2 : dM) => (D132 r2).bind fun (r3 : Int32 × dM) => (D12 r3.2).bind fun (r4 : Int32 × dM) => some (.inl r3.1, r4.2)
set_option maxRecDepth 20000 in
theorem w_83 {X : Nat × (Nat → Int32)} {d : Nat} {m : dM} {r : (Int32 ⊕ Nat) × dM} (hD : D83 m = some r) : ax_Ev X (d + 7) 83 [.ref 0] (stt m) (oT (fun x => some (.int x)) r.1) (stt r.2) := by
  unfold D83 at hD
  show ax_Wp X (d + 6 + 1) 83 (0, [some (.ref 0), none], []) (stt m) _
  refine ax_Wp.go (f' := (4, [some (.ref 0), none], [.ref 42])) 2 rfl ?_
  refine bnd hD (fun x1 hx hD => ?_)
  refine ax_Wp.callE (f' := (7, [some (.ref 0), none], [])) rfl rfl (w_14 (d := d + 2) hx) rfl ?_
  refine ax_Wp.brD hD rfl (fun _ hD => ?_) (fun _ hD => ?_)
  · obtain rfl := inj hD
    exact ax_Wp.thr rfl (ax_six _ rfl) ⟨rfl, rfl⟩
  · refine ax_Wp.go (f' := (21, [some (.ref 0), none], [.ref 0])) 1 rfl ?_
    refine bnd hD (fun r2 hx hD => ?_)
    refine ax_Wp.callE (f' := (24, [some (.ref 0), none], [])) rfl rfl (w_131 (d := d + 3) hx) rfl ?_
    refine ax_Wp.go (f' := (25, [some (.ref 0), none], [.ref 0])) 1 rfl ?_
    refine bnd hD (fun r3 hx hD => ?_)
    refine ax_Wp.callE (f' := (28, [some (.ref 0), none], [])) rfl rfl (w_132 (d := d + 0) hx) rfl ?_
    refine ax_Wp.go (f' := (33, [some (.ref 0), some (.int r3.1)], [.ref 42])) 3 rfl ?_
    refine bnd hD (fun r4 hx hD => ?_)
    refine ax_Wp.callE (f' := (36, [some (.ref 0), some (.int r3.1)], [])) rfl rfl (w_12 (d := d + 5) hx) rfl ?_
    refine ax_Wp.go (f' := (38, [some (.ref 0), some (.int r3.1)], [.int r3.1])) 2 rfl ?_
    obtain rfl := inj hD
    exact ax_Wp.ret rfl ⟨rfl, rfl⟩
def D256 (m : dM) : Option (Int32 × dM) := cG (D83 m) (fun (x1 : Int32) (m4 : dM) => (sL m4 138 1 (nI 0) x1.toInt64).bind fun (m5 : dM) => some (nI 0, m5)) (fun (j2 : Nat) (m3 : dM) => if j2 = 1 then some (nI 1, m3) else none)
set_option maxRecDepth 20000 in
theorem w_256 {X : Nat × (Nat → Int32)} {d : Nat} {m : dM} {r : Int32 × dM} (hD : D256 m = some r) : ax_Ev X (d + 8) 256 [.ref 0, .ref 138] (stt m) (.inl (some (.int r.1))) (stt r.2) := by
  unfold D256 at hD
  show ax_Wp X (d + 7 + 1) 256 (0, [some (.ref 0), some (.ref 138), none], []) (stt m) _
  refine ax_Wp.go (f' := (3, [some (.ref 0), some (.ref 138), none], [.ref 0, .int (nI 0), .ref 138])) 3 rfl ?_
  refine cG.sp hD (fun x1 m4 hx hD => ?_) (fun j2 m3 hx hD => ?_)
  · refine ax_Wp.callE (f' := (6, [some (.ref 0), some (.ref 138), none], [.int (nI 0), .ref 138])) rfl rfl (w_83 (d := d + 0) hx) rfl ?_
    refine ax_Wp.go (f' := (7, [some (.ref 0), some (.ref 138), none], [.long x1.toInt64, .int (nI 0), .ref 138])) 1 rfl ?_
    refine ax_Wp.wrL hD rfl rfl (fun _ => rfl) (fun m5 hD => ?_)
    refine ax_Wp.go (f' := (15, [some (.ref 0), some (.ref 138), none], [.int (nI 0)])) 2 rfl ?_
    obtain rfl := inj hD
    exact ax_Wp.ret rfl ⟨rfl, rfl⟩
  · refine swD hD (fun e hD => ?_) (fun _ hD => ?_)
    · cases e
      refine ax_Wp.callH (f' := (6, [some (.ref 0), some (.ref 138), none], [.int (nI 0), .ref 138])) (pc2 := 12) (i := 2) rfl rfl (w_83 (d := d + 0) hx) rfl rfl rfl ?_
      refine ax_Wp.go (f' := (13, [some (.ref 0), some (.ref 138), none], [.int (nI 1)])) 1 rfl ?_
      obtain rfl := inj hD
      exact ax_Wp.ret rfl ⟨rfl, rfl⟩
    cases hD
def D85 (m : dM) : Option (Int32 ⊕ Nat) := if (rI m 1 9) = (-1) then some (.inr 2) else some (.inl (rI m 1 9))
set_option maxRecDepth 20000 in
theorem w_85 {X : Nat × (Nat → Int32)} {d : Nat} {m : dM} {r : Int32 ⊕ Nat} (hD : D85 m = some r) : ax_Ev X (d + 6) 85 [.ref 0] (stt m) (oT (fun x => some (.int x)) r) (stt (bT m r)) := by
  unfold D85 at hD
  show ax_Wp X (d + 5 + 1) 85 (0, [some (.ref 0)], []) (stt m) _
  refine ax_Wp.go (f' := (8, [some (.ref 0)], [.int (-1), .int (rI m 1 9)])) 4 rfl ?_
  refine ax_Wp.brD hD rfl (fun _ hD => ?_) (fun _ hD => ?_)
  · obtain rfl := inj hD
    exact ax_Wp.thr rfl (ax_six _ rfl) ⟨rfl, rfl⟩
  · refine ax_Wp.go (f' := (28, [some (.ref 0)], [.int (rI m 1 9)])) 3 rfl ?_
    obtain rfl := inj hD
    exact ax_Wp.ret rfl ⟨rfl, rfl⟩
def D257 (m : dM) : Option (Int32 × dM) := cT (D85 m) m (fun (x1 : Int32) => (sL m 138 1 (nI 0) x1.toInt64).bind fun (m4 : dM) => some (nI 0, m4)) (fun (j2 : Nat) (m3 : dM) => if j2 = 2 then some (nI 1, m3) else none)
set_option maxRecDepth 20000 in
theorem w_257 {X : Nat × (Nat → Int32)} {d : Nat} {m : dM} {r : Int32 × dM} (hD : D257 m = some r) : ax_Ev X (d + 7) 257 [.ref 0, .ref 138] (stt m) (.inl (some (.int r.1))) (stt r.2) := by
  unfold D257 at hD
  show ax_Wp X (d + 6 + 1) 257 (0, [some (.ref 0), some (.ref 138), none], []) (stt m) _
  refine ax_Wp.go (f' := (3, [some (.ref 0), some (.ref 138), none], [.ref 0, .int (nI 0), .ref 138])) 3 rfl ?_
  refine cT.sp hD (fun x1 hx hD => ?_) (fun j2 hx hD => ?_)
  · refine ax_Wp.callE (f' := (6, [some (.ref 0), some (.ref 138), none], [.int (nI 0), .ref 138])) rfl rfl (w_85 (d := d + 0) hx) rfl ?_
    refine ax_Wp.go (f' := (7, [some (.ref 0), some (.ref 138), none], [.long x1.toInt64, .int (nI 0), .ref 138])) 1 rfl ?_
    refine ax_Wp.wrL hD rfl rfl (fun _ => rfl) (fun m4 hD => ?_)
    refine ax_Wp.go (f' := (15, [some (.ref 0), some (.ref 138), none], [.int (nI 0)])) 2 rfl ?_
    obtain rfl := inj hD
    exact ax_Wp.ret rfl ⟨rfl, rfl⟩
  · refine swD hD (fun e hD => ?_) (fun _ hD => ?_)
    · cases e
      refine ax_Wp.callH (f' := (6, [some (.ref 0), some (.ref 138), none], [.int (nI 0), .ref 138])) (pc2 := 12) (i := 2) rfl rfl (w_85 (d := d + 0) hx) rfl rfl rfl ?_
      refine ax_Wp.go (f' := (13, [some (.ref 0), some (.ref 138), none], [.int (nI 1)])) 1 rfl ?_
      obtain rfl := inj hD
      exact ax_Wp.ret rfl ⟨rfl, rfl⟩
    cases hD
def D58_2_46 (m : dM) : Option (dM) := (kI m 47 3 24).bind fun (m1 : dM) => (kI m1 48 4 24).bind fun (m2 : dM) => (fI m2 2 2 (rI m2 46 2)).bind fun (m3 : dM) => (fI m3 2 3 (rI m3 46 3)).bind fun (m4 : dM) => (fI m4 2 4 (rI m4 46 4)).bind fun (m5 : dM) => some m5
set_option maxRecDepth 20000 in
theorem w_58_2_46 {X : Nat × (Nat → Int32)} {d : Nat} {m : dM} {r : dM} (hD : D58_2_46 m = some r) : ax_Ev X (d + 1) 58 [.ref 2, .ref 46] (stt m) (.inl none) (stt r) := by
  unfold D58_2_46 at hD
  show ax_Wp X (d + 0 + 1) 58 (0, [some (.ref 2), some (.ref 46)], []) (stt m) _
  refine ax_Wp.go (f' := (12, [some (.ref 2), some (.ref 46)], [.int (nI 24), .int (nI 0), .ref 3, .int (nI 0), .ref 47])) 7 rfl ?_
  refine ax_Wp.cpI (S' := []) hD rfl rfl (fun _ => rfl) (fun m1 hD => ?_)
  refine ax_Wp.go (f' := (27, [some (.ref 2), some (.ref 46)], [.int (nI 24), .int (nI 0), .ref 4, .int (nI 0), .ref 48])) 7 rfl ?_
  refine ax_Wp.cpI (S' := []) hD rfl rfl (fun _ => rfl) (fun m2 hD => ?_)
  refine ax_Wp.go (f' := (35, [some (.ref 2), some (.ref 46)], [.int (rI m2 46 2), .ref 2])) 3 rfl ?_
  refine ax_Wp.ptI hD rfl rfl rfl (fun m3 hD => ?_)
  refine ax_Wp.go (f' := (43, [some (.ref 2), some (.ref 46)], [.int (rI m3 46 3), .ref 2])) 3 rfl ?_
  refine ax_Wp.ptI hD rfl rfl rfl (fun m4 hD => ?_)
  refine ax_Wp.go (f' := (51, [some (.ref 2), some (.ref 46)], [.int (rI m4 46 4), .ref 2])) 3 rfl ?_
  refine ax_Wp.ptI hD rfl rfl rfl (fun m5 hD => ?_)
  obtain rfl := inj hD
  exact ax_Wp.ret rfl ⟨rfl, rfl⟩
def D1_5_49 (m : dM) : Option (dM) := (kI m 50 6 4).bind fun (m1 : dM) => (kI m1 51 7 4).bind fun (m2 : dM) => (kI m2 52 8 4).bind fun (m3 : dM) => (kI m3 53 9 4).bind fun (m4 : dM) => (fI m4 5 4 (rI m4 49 4)).bind fun (m5 : dM) => some m5
set_option maxRecDepth 20000 in
theorem w_1_5_49 {X : Nat × (Nat → Int32)} {d : Nat} {m : dM} {r : dM} (hD : D1_5_49 m = some r) : ax_Ev X (d + 1) 1 [.ref 5, .ref 49] (stt m) (.inl none) (stt r) := by
  unfold D1_5_49 at hD
  show ax_Wp X (d + 0 + 1) 1 (0, [some (.ref 5), some (.ref 49)], []) (stt m) _
  refine ax_Wp.go (f' := (11, [some (.ref 5), some (.ref 49)], [.int (nI 4), .int (nI 0), .ref 6, .int (nI 0), .ref 50])) 7 rfl ?_
  refine ax_Wp.cpI (S' := []) hD rfl rfl (fun _ => rfl) (fun m1 hD => ?_)
  refine ax_Wp.go (f' := (25, [some (.ref 5), some (.ref 49)], [.int (nI 4), .int (nI 0), .ref 7, .int (nI 0), .ref 51])) 7 rfl ?_
  refine ax_Wp.cpI (S' := []) hD rfl rfl (fun _ => rfl) (fun m2 hD => ?_)
  refine ax_Wp.go (f' := (39, [some (.ref 5), some (.ref 49)], [.int (nI 4), .int (nI 0), .ref 8, .int (nI 0), .ref 52])) 7 rfl ?_
  refine ax_Wp.cpI (S' := []) hD rfl rfl (fun _ => rfl) (fun m3 hD => ?_)
  refine ax_Wp.go (f' := (53, [some (.ref 5), some (.ref 49)], [.int (nI 4), .int (nI 0), .ref 9, .int (nI 0), .ref 53])) 7 rfl ?_
  refine ax_Wp.cpI (S' := []) hD rfl rfl (fun _ => rfl) (fun m4 hD => ?_)
  refine ax_Wp.go (f' := (61, [some (.ref 5), some (.ref 49)], [.int (rI m4 49 4), .ref 5])) 3 rfl ?_
  refine ax_Wp.ptI hD rfl rfl rfl (fun m5 hD => ?_)
  obtain rfl := inj hD
  exact ax_Wp.ret rfl ⟨rfl, rfl⟩
def D28_10_54 (m : dM) : Option (dM) := (kI m 55 11 8).bind fun (m1 : dM) => (kI m1 56 12 8).bind fun (m2 : dM) => (kI m2 57 13 8).bind fun (m3 : dM) => (kI m3 58 14 8).bind fun (m4 : dM) => (fI m4 10 4 (rI m4 54 4)).bind fun (m5 : dM) => some m5
set_option maxRecDepth 20000 in
theorem w_28_10_54 {X : Nat × (Nat → Int32)} {d : Nat} {m : dM} {r : dM} (hD : D28_10_54 m = some r) : ax_Ev X (d + 1) 28 [.ref 10, .ref 54] (stt m) (.inl none) (stt r) := by
  unfold D28_10_54 at hD
  show ax_Wp X (d + 0 + 1) 28 (0, [some (.ref 10), some (.ref 54)], []) (stt m) _
  refine ax_Wp.go (f' := (12, [some (.ref 10), some (.ref 54)], [.int (nI 8), .int (nI 0), .ref 11, .int (nI 0), .ref 55])) 7 rfl ?_
  refine ax_Wp.cpI (S' := []) hD rfl rfl (fun _ => rfl) (fun m1 hD => ?_)
  refine ax_Wp.go (f' := (27, [some (.ref 10), some (.ref 54)], [.int (nI 8), .int (nI 0), .ref 12, .int (nI 0), .ref 56])) 7 rfl ?_
  refine ax_Wp.cpI (S' := []) hD rfl rfl (fun _ => rfl) (fun m2 hD => ?_)
  refine ax_Wp.go (f' := (42, [some (.ref 10), some (.ref 54)], [.int (nI 8), .int (nI 0), .ref 13, .int (nI 0), .ref 57])) 7 rfl ?_
  refine ax_Wp.cpI (S' := []) hD rfl rfl (fun _ => rfl) (fun m3 hD => ?_)
  refine ax_Wp.go (f' := (57, [some (.ref 10), some (.ref 54)], [.int (nI 8), .int (nI 0), .ref 14, .int (nI 0), .ref 58])) 7 rfl ?_
  refine ax_Wp.cpI (S' := []) hD rfl rfl (fun _ => rfl) (fun m4 hD => ?_)
  refine ax_Wp.go (f' := (65, [some (.ref 10), some (.ref 54)], [.int (rI m4 54 4), .ref 10])) 3 rfl ?_
  refine ax_Wp.ptI hD rfl rfl rfl (fun m5 hD => ?_)
  obtain rfl := inj hD
  exact ax_Wp.ret rfl ⟨rfl, rfl⟩
def D22_15_59 (m : dM) : Option (dM) := (kL m 60 16 61).bind fun (m1 : dM) => (fI m1 15 1 (rI m1 59 1)).bind fun (m2 : dM) => some m2
set_option maxRecDepth 20000 in
theorem w_22_15_59 {X : Nat × (Nat → Int32)} {d : Nat} {m : dM} {r : dM} (hD : D22_15_59 m = some r) : ax_Ev X (d + 1) 22 [.ref 15, .ref 59] (stt m) (.inl none) (stt r) := by
  unfold D22_15_59 at hD
  show ax_Wp X (d + 0 + 1) 22 (0, [some (.ref 15), some (.ref 59)], []) (stt m) _
  refine ax_Wp.go (f' := (12, [some (.ref 15), some (.ref 59)], [.int (nI 61), .int (nI 0), .ref 16, .int (nI 0), .ref 60])) 7 rfl ?_
  refine ax_Wp.cpL (S' := []) hD rfl rfl (fun _ => rfl) (fun m1 hD => ?_)
  refine ax_Wp.go (f' := (20, [some (.ref 15), some (.ref 59)], [.int (rI m1 59 1), .ref 15])) 3 rfl ?_
  refine ax_Wp.ptI hD rfl rfl rfl (fun m2 hD => ?_)
  obtain rfl := inj hD
  exact ax_Wp.ret rfl ⟨rfl, rfl⟩
def D41_1_45 (m : dM) : Option (dM) := (D58_2_46 m).bind fun (r1 : dM) => (D1_5_49 r1).bind fun (r2 : dM) => (D28_10_54 r2).bind fun (r3 : dM) => (D22_15_59 r3).bind fun (r4 : dM) => (kI r4 61 17 2).bind fun (m5 : dM) => (fI m5 1 5 (rI m5 45 5)).bind fun (m6 : dM) => (fI m6 1 6 (rI m6 45 6)).bind fun (m7 : dM) => (fI m7 1 7 (rI m7 45 7)).bind fun (m8 : dM) => (fI m8 1 8 (rI m8 45 8)).bind fun (m9 : dM) => (fI m9 1 9 (rI m9 45 9)).bind fun (m10 : dM) => some m10
set_option maxRecDepth 20000 in
theorem w_41_1_45 {X : Nat × (Nat → Int32)} {d : Nat} {m : dM} {r : dM} (hD : D41_1_45 m = some r) : ax_Ev X (d + 2) 41 [.ref 1, .ref 45] (stt m) (.inl none) (stt r) := by
  unfold D41_1_45 at hD
  show ax_Wp X (d + 1 + 1) 41 (0, [some (.ref 1), some (.ref 45)], []) (stt m) _
  refine ax_Wp.go (f' := (8, [some (.ref 1), some (.ref 45)], [.ref 46, .ref 2])) 4 rfl ?_
  refine bnd hD (fun r1 hx hD => ?_)
  refine ax_Wp.callE (f' := (11, [some (.ref 1), some (.ref 45)], [])) rfl rfl (w_58_2_46 (d := d + 0) hx) rfl ?_
  refine ax_Wp.go (f' := (19, [some (.ref 1), some (.ref 45)], [.ref 49, .ref 5])) 4 rfl ?_
  refine bnd hD (fun r2 hx hD => ?_)
  refine ax_Wp.callE (f' := (22, [some (.ref 1), some (.ref 45)], [])) rfl rfl (w_1_5_49 (d := d + 0) hx) rfl ?_
  refine ax_Wp.go (f' := (30, [some (.ref 1), some (.ref 45)], [.ref 54, .ref 10])) 4 rfl ?_
  refine bnd hD (fun r3 hx hD => ?_)
  refine ax_Wp.callE (f' := (33, [some (.ref 1), some (.ref 45)], [])) rfl rfl (w_28_10_54 (d := d + 0) hx) rfl ?_
  refine ax_Wp.go (f' := (41, [some (.ref 1), some (.ref 45)], [.ref 59, .ref 15])) 4 rfl ?_
  refine bnd hD (fun r4 hx hD => ?_)
  refine ax_Wp.callE (f' := (44, [some (.ref 1), some (.ref 45)], [])) rfl rfl (w_22_15_59 (d := d + 0) hx) rfl ?_
  refine ax_Wp.go (f' := (55, [some (.ref 1), some (.ref 45)], [.int (nI 2), .int (nI 0), .ref 17, .int (nI 0), .ref 61])) 7 rfl ?_
  refine ax_Wp.cpI (S' := []) hD rfl rfl (fun _ => rfl) (fun m5 hD => ?_)
  refine ax_Wp.go (f' := (63, [some (.ref 1), some (.ref 45)], [.int (rI m5 45 5), .ref 1])) 3 rfl ?_
  refine ax_Wp.ptI hD rfl rfl rfl (fun m6 hD => ?_)
  refine ax_Wp.go (f' := (71, [some (.ref 1), some (.ref 45)], [.int (rI m6 45 6), .ref 1])) 3 rfl ?_
  refine ax_Wp.ptI hD rfl rfl rfl (fun m7 hD => ?_)
  refine ax_Wp.go (f' := (79, [some (.ref 1), some (.ref 45)], [.int (rI m7 45 7), .ref 1])) 3 rfl ?_
  refine ax_Wp.ptI hD rfl rfl rfl (fun m8 hD => ?_)
  refine ax_Wp.go (f' := (87, [some (.ref 1), some (.ref 45)], [.int (rI m8 45 8), .ref 1])) 3 rfl ?_
  refine ax_Wp.ptI hD rfl rfl rfl (fun m9 hD => ?_)
  refine ax_Wp.go (f' := (95, [some (.ref 1), some (.ref 45)], [.int (rI m9 45 9), .ref 1])) 3 rfl ?_
  refine ax_Wp.ptI hD rfl rfl rfl (fun m10 hD => ?_)
  obtain rfl := inj hD
  exact ax_Wp.ret rfl ⟨rfl, rfl⟩
def D58_2_63 (m : dM) : Option (dM) := (kI m 64 3 24).bind fun (m1 : dM) => (kI m1 65 4 24).bind fun (m2 : dM) => (fI m2 2 2 (rI m2 63 2)).bind fun (m3 : dM) => (fI m3 2 3 (rI m3 63 3)).bind fun (m4 : dM) => (fI m4 2 4 (rI m4 63 4)).bind fun (m5 : dM) => some m5
set_option maxRecDepth 20000 in
theorem w_58_2_63 {X : Nat × (Nat → Int32)} {d : Nat} {m : dM} {r : dM} (hD : D58_2_63 m = some r) : ax_Ev X (d + 1) 58 [.ref 2, .ref 63] (stt m) (.inl none) (stt r) := by
  unfold D58_2_63 at hD
  show ax_Wp X (d + 0 + 1) 58 (0, [some (.ref 2), some (.ref 63)], []) (stt m) _
  refine ax_Wp.go (f' := (12, [some (.ref 2), some (.ref 63)], [.int (nI 24), .int (nI 0), .ref 3, .int (nI 0), .ref 64])) 7 rfl ?_
  refine ax_Wp.cpI (S' := []) hD rfl rfl (fun _ => rfl) (fun m1 hD => ?_)
  refine ax_Wp.go (f' := (27, [some (.ref 2), some (.ref 63)], [.int (nI 24), .int (nI 0), .ref 4, .int (nI 0), .ref 65])) 7 rfl ?_
  refine ax_Wp.cpI (S' := []) hD rfl rfl (fun _ => rfl) (fun m2 hD => ?_)
  refine ax_Wp.go (f' := (35, [some (.ref 2), some (.ref 63)], [.int (rI m2 63 2), .ref 2])) 3 rfl ?_
  refine ax_Wp.ptI hD rfl rfl rfl (fun m3 hD => ?_)
  refine ax_Wp.go (f' := (43, [some (.ref 2), some (.ref 63)], [.int (rI m3 63 3), .ref 2])) 3 rfl ?_
  refine ax_Wp.ptI hD rfl rfl rfl (fun m4 hD => ?_)
  refine ax_Wp.go (f' := (51, [some (.ref 2), some (.ref 63)], [.int (rI m4 63 4), .ref 2])) 3 rfl ?_
  refine ax_Wp.ptI hD rfl rfl rfl (fun m5 hD => ?_)
  obtain rfl := inj hD
  exact ax_Wp.ret rfl ⟨rfl, rfl⟩
def D1_5_66 (m : dM) : Option (dM) := (kI m 67 6 4).bind fun (m1 : dM) => (kI m1 68 7 4).bind fun (m2 : dM) => (kI m2 69 8 4).bind fun (m3 : dM) => (kI m3 70 9 4).bind fun (m4 : dM) => (fI m4 5 4 (rI m4 66 4)).bind fun (m5 : dM) => some m5
set_option maxRecDepth 20000 in
theorem w_1_5_66 {X : Nat × (Nat → Int32)} {d : Nat} {m : dM} {r : dM} (hD : D1_5_66 m = some r) : ax_Ev X (d + 1) 1 [.ref 5, .ref 66] (stt m) (.inl none) (stt r) := by
  unfold D1_5_66 at hD
  show ax_Wp X (d + 0 + 1) 1 (0, [some (.ref 5), some (.ref 66)], []) (stt m) _
  refine ax_Wp.go (f' := (11, [some (.ref 5), some (.ref 66)], [.int (nI 4), .int (nI 0), .ref 6, .int (nI 0), .ref 67])) 7 rfl ?_
  refine ax_Wp.cpI (S' := []) hD rfl rfl (fun _ => rfl) (fun m1 hD => ?_)
  refine ax_Wp.go (f' := (25, [some (.ref 5), some (.ref 66)], [.int (nI 4), .int (nI 0), .ref 7, .int (nI 0), .ref 68])) 7 rfl ?_
  refine ax_Wp.cpI (S' := []) hD rfl rfl (fun _ => rfl) (fun m2 hD => ?_)
  refine ax_Wp.go (f' := (39, [some (.ref 5), some (.ref 66)], [.int (nI 4), .int (nI 0), .ref 8, .int (nI 0), .ref 69])) 7 rfl ?_
  refine ax_Wp.cpI (S' := []) hD rfl rfl (fun _ => rfl) (fun m3 hD => ?_)
  refine ax_Wp.go (f' := (53, [some (.ref 5), some (.ref 66)], [.int (nI 4), .int (nI 0), .ref 9, .int (nI 0), .ref 70])) 7 rfl ?_
  refine ax_Wp.cpI (S' := []) hD rfl rfl (fun _ => rfl) (fun m4 hD => ?_)
  refine ax_Wp.go (f' := (61, [some (.ref 5), some (.ref 66)], [.int (rI m4 66 4), .ref 5])) 3 rfl ?_
  refine ax_Wp.ptI hD rfl rfl rfl (fun m5 hD => ?_)
  obtain rfl := inj hD
  exact ax_Wp.ret rfl ⟨rfl, rfl⟩
def D28_10_71 (m : dM) : Option (dM) := (kI m 72 11 8).bind fun (m1 : dM) => (kI m1 73 12 8).bind fun (m2 : dM) => (kI m2 74 13 8).bind fun (m3 : dM) => (kI m3 75 14 8).bind fun (m4 : dM) => (fI m4 10 4 (rI m4 71 4)).bind fun (m5 : dM) => some m5
set_option maxRecDepth 20000 in
theorem w_28_10_71 {X : Nat × (Nat → Int32)} {d : Nat} {m : dM} {r : dM} (hD : D28_10_71 m = some r) : ax_Ev X (d + 1) 28 [.ref 10, .ref 71] (stt m) (.inl none) (stt r) := by
  unfold D28_10_71 at hD
  show ax_Wp X (d + 0 + 1) 28 (0, [some (.ref 10), some (.ref 71)], []) (stt m) _
  refine ax_Wp.go (f' := (12, [some (.ref 10), some (.ref 71)], [.int (nI 8), .int (nI 0), .ref 11, .int (nI 0), .ref 72])) 7 rfl ?_
  refine ax_Wp.cpI (S' := []) hD rfl rfl (fun _ => rfl) (fun m1 hD => ?_)
  refine ax_Wp.go (f' := (27, [some (.ref 10), some (.ref 71)], [.int (nI 8), .int (nI 0), .ref 12, .int (nI 0), .ref 73])) 7 rfl ?_
  refine ax_Wp.cpI (S' := []) hD rfl rfl (fun _ => rfl) (fun m2 hD => ?_)
  refine ax_Wp.go (f' := (42, [some (.ref 10), some (.ref 71)], [.int (nI 8), .int (nI 0), .ref 13, .int (nI 0), .ref 74])) 7 rfl ?_
  refine ax_Wp.cpI (S' := []) hD rfl rfl (fun _ => rfl) (fun m3 hD => ?_)
  refine ax_Wp.go (f' := (57, [some (.ref 10), some (.ref 71)], [.int (nI 8), .int (nI 0), .ref 14, .int (nI 0), .ref 75])) 7 rfl ?_
  refine ax_Wp.cpI (S' := []) hD rfl rfl (fun _ => rfl) (fun m4 hD => ?_)
  refine ax_Wp.go (f' := (65, [some (.ref 10), some (.ref 71)], [.int (rI m4 71 4), .ref 10])) 3 rfl ?_
  refine ax_Wp.ptI hD rfl rfl rfl (fun m5 hD => ?_)
  obtain rfl := inj hD
  exact ax_Wp.ret rfl ⟨rfl, rfl⟩
def D22_15_76 (m : dM) : Option (dM) := (kL m 77 16 61).bind fun (m1 : dM) => (fI m1 15 1 (rI m1 76 1)).bind fun (m2 : dM) => some m2
set_option maxRecDepth 20000 in
theorem w_22_15_76 {X : Nat × (Nat → Int32)} {d : Nat} {m : dM} {r : dM} (hD : D22_15_76 m = some r) : ax_Ev X (d + 1) 22 [.ref 15, .ref 76] (stt m) (.inl none) (stt r) := by
  unfold D22_15_76 at hD
  show ax_Wp X (d + 0 + 1) 22 (0, [some (.ref 15), some (.ref 76)], []) (stt m) _
  refine ax_Wp.go (f' := (12, [some (.ref 15), some (.ref 76)], [.int (nI 61), .int (nI 0), .ref 16, .int (nI 0), .ref 77])) 7 rfl ?_
  refine ax_Wp.cpL (S' := []) hD rfl rfl (fun _ => rfl) (fun m1 hD => ?_)
  refine ax_Wp.go (f' := (20, [some (.ref 15), some (.ref 76)], [.int (rI m1 76 1), .ref 15])) 3 rfl ?_
  refine ax_Wp.ptI hD rfl rfl rfl (fun m2 hD => ?_)
  obtain rfl := inj hD
  exact ax_Wp.ret rfl ⟨rfl, rfl⟩
def D41_1_62 (m : dM) : Option (dM) := (D58_2_63 m).bind fun (r1 : dM) => (D1_5_66 r1).bind fun (r2 : dM) => (D28_10_71 r2).bind fun (r3 : dM) => (D22_15_76 r3).bind fun (r4 : dM) => (kI r4 78 17 2).bind fun (m5 : dM) => (fI m5 1 5 (rI m5 62 5)).bind fun (m6 : dM) => (fI m6 1 6 (rI m6 62 6)).bind fun (m7 : dM) => (fI m7 1 7 (rI m7 62 7)).bind fun (m8 : dM) => (fI m8 1 8 (rI m8 62 8)).bind fun (m9 : dM) => (fI m9 1 9 (rI m9 62 9)).bind fun (m10 : dM) => some m10
set_option maxRecDepth 20000 in
theorem w_41_1_62 {X : Nat × (Nat → Int32)} {d : Nat} {m : dM} {r : dM} (hD : D41_1_62 m = some r) : ax_Ev X (d + 2) 41 [.ref 1, .ref 62] (stt m) (.inl none) (stt r) := by
  unfold D41_1_62 at hD
  show ax_Wp X (d + 1 + 1) 41 (0, [some (.ref 1), some (.ref 62)], []) (stt m) _
  refine ax_Wp.go (f' := (8, [some (.ref 1), some (.ref 62)], [.ref 63, .ref 2])) 4 rfl ?_
  refine bnd hD (fun r1 hx hD => ?_)
  refine ax_Wp.callE (f' := (11, [some (.ref 1), some (.ref 62)], [])) rfl rfl (w_58_2_63 (d := d + 0) hx) rfl ?_
  refine ax_Wp.go (f' := (19, [some (.ref 1), some (.ref 62)], [.ref 66, .ref 5])) 4 rfl ?_
  refine bnd hD (fun r2 hx hD => ?_)
  refine ax_Wp.callE (f' := (22, [some (.ref 1), some (.ref 62)], [])) rfl rfl (w_1_5_66 (d := d + 0) hx) rfl ?_
  refine ax_Wp.go (f' := (30, [some (.ref 1), some (.ref 62)], [.ref 71, .ref 10])) 4 rfl ?_
  refine bnd hD (fun r3 hx hD => ?_)
  refine ax_Wp.callE (f' := (33, [some (.ref 1), some (.ref 62)], [])) rfl rfl (w_28_10_71 (d := d + 0) hx) rfl ?_
  refine ax_Wp.go (f' := (41, [some (.ref 1), some (.ref 62)], [.ref 76, .ref 15])) 4 rfl ?_
  refine bnd hD (fun r4 hx hD => ?_)
  refine ax_Wp.callE (f' := (44, [some (.ref 1), some (.ref 62)], [])) rfl rfl (w_22_15_76 (d := d + 0) hx) rfl ?_
  refine ax_Wp.go (f' := (55, [some (.ref 1), some (.ref 62)], [.int (nI 2), .int (nI 0), .ref 17, .int (nI 0), .ref 78])) 7 rfl ?_
  refine ax_Wp.cpI (S' := []) hD rfl rfl (fun _ => rfl) (fun m5 hD => ?_)
  refine ax_Wp.go (f' := (63, [some (.ref 1), some (.ref 62)], [.int (rI m5 62 5), .ref 1])) 3 rfl ?_
  refine ax_Wp.ptI hD rfl rfl rfl (fun m6 hD => ?_)
  refine ax_Wp.go (f' := (71, [some (.ref 1), some (.ref 62)], [.int (rI m6 62 6), .ref 1])) 3 rfl ?_
  refine ax_Wp.ptI hD rfl rfl rfl (fun m7 hD => ?_)
  refine ax_Wp.go (f' := (79, [some (.ref 1), some (.ref 62)], [.int (rI m7 62 7), .ref 1])) 3 rfl ?_
  refine ax_Wp.ptI hD rfl rfl rfl (fun m8 hD => ?_)
  refine ax_Wp.go (f' := (87, [some (.ref 1), some (.ref 62)], [.int (rI m8 62 8), .ref 1])) 3 rfl ?_
  refine ax_Wp.ptI hD rfl rfl rfl (fun m9 hD => ?_)
  refine ax_Wp.go (f' := (95, [some (.ref 1), some (.ref 62)], [.int (rI m9 62 9), .ref 1])) 3 rfl ?_
  refine ax_Wp.ptI hD rfl rfl rfl (fun m10 hD => ?_)
  obtain rfl := inj hD
  exact ax_Wp.ret rfl ⟨rfl, rfl⟩
def D58_2_80 (m : dM) : Option (dM) := (kI m 81 3 24).bind fun (m1 : dM) => (kI m1 82 4 24).bind fun (m2 : dM) => (fI m2 2 2 (rI m2 80 2)).bind fun (m3 : dM) => (fI m3 2 3 (rI m3 80 3)).bind fun (m4 : dM) => (fI m4 2 4 (rI m4 80 4)).bind fun (m5 : dM) => some m5
set_option maxRecDepth 20000 in
theorem w_58_2_80 {X : Nat × (Nat → Int32)} {d : Nat} {m : dM} {r : dM} (hD : D58_2_80 m = some r) : ax_Ev X (d + 1) 58 [.ref 2, .ref 80] (stt m) (.inl none) (stt r) := by
  unfold D58_2_80 at hD
  show ax_Wp X (d + 0 + 1) 58 (0, [some (.ref 2), some (.ref 80)], []) (stt m) _
  refine ax_Wp.go (f' := (12, [some (.ref 2), some (.ref 80)], [.int (nI 24), .int (nI 0), .ref 3, .int (nI 0), .ref 81])) 7 rfl ?_
  refine ax_Wp.cpI (S' := []) hD rfl rfl (fun _ => rfl) (fun m1 hD => ?_)
  refine ax_Wp.go (f' := (27, [some (.ref 2), some (.ref 80)], [.int (nI 24), .int (nI 0), .ref 4, .int (nI 0), .ref 82])) 7 rfl ?_
  refine ax_Wp.cpI (S' := []) hD rfl rfl (fun _ => rfl) (fun m2 hD => ?_)
  refine ax_Wp.go (f' := (35, [some (.ref 2), some (.ref 80)], [.int (rI m2 80 2), .ref 2])) 3 rfl ?_
  refine ax_Wp.ptI hD rfl rfl rfl (fun m3 hD => ?_)
  refine ax_Wp.go (f' := (43, [some (.ref 2), some (.ref 80)], [.int (rI m3 80 3), .ref 2])) 3 rfl ?_
  refine ax_Wp.ptI hD rfl rfl rfl (fun m4 hD => ?_)
  refine ax_Wp.go (f' := (51, [some (.ref 2), some (.ref 80)], [.int (rI m4 80 4), .ref 2])) 3 rfl ?_
  refine ax_Wp.ptI hD rfl rfl rfl (fun m5 hD => ?_)
  obtain rfl := inj hD
  exact ax_Wp.ret rfl ⟨rfl, rfl⟩
def D1_5_83 (m : dM) : Option (dM) := (kI m 84 6 4).bind fun (m1 : dM) => (kI m1 85 7 4).bind fun (m2 : dM) => (kI m2 86 8 4).bind fun (m3 : dM) => (kI m3 87 9 4).bind fun (m4 : dM) => (fI m4 5 4 (rI m4 83 4)).bind fun (m5 : dM) => some m5
set_option maxRecDepth 20000 in
theorem w_1_5_83 {X : Nat × (Nat → Int32)} {d : Nat} {m : dM} {r : dM} (hD : D1_5_83 m = some r) : ax_Ev X (d + 1) 1 [.ref 5, .ref 83] (stt m) (.inl none) (stt r) := by
  unfold D1_5_83 at hD
  show ax_Wp X (d + 0 + 1) 1 (0, [some (.ref 5), some (.ref 83)], []) (stt m) _
  refine ax_Wp.go (f' := (11, [some (.ref 5), some (.ref 83)], [.int (nI 4), .int (nI 0), .ref 6, .int (nI 0), .ref 84])) 7 rfl ?_
  refine ax_Wp.cpI (S' := []) hD rfl rfl (fun _ => rfl) (fun m1 hD => ?_)
  refine ax_Wp.go (f' := (25, [some (.ref 5), some (.ref 83)], [.int (nI 4), .int (nI 0), .ref 7, .int (nI 0), .ref 85])) 7 rfl ?_
  refine ax_Wp.cpI (S' := []) hD rfl rfl (fun _ => rfl) (fun m2 hD => ?_)
  refine ax_Wp.go (f' := (39, [some (.ref 5), some (.ref 83)], [.int (nI 4), .int (nI 0), .ref 8, .int (nI 0), .ref 86])) 7 rfl ?_
  refine ax_Wp.cpI (S' := []) hD rfl rfl (fun _ => rfl) (fun m3 hD => ?_)
  refine ax_Wp.go (f' := (53, [some (.ref 5), some (.ref 83)], [.int (nI 4), .int (nI 0), .ref 9, .int (nI 0), .ref 87])) 7 rfl ?_
  refine ax_Wp.cpI (S' := []) hD rfl rfl (fun _ => rfl) (fun m4 hD => ?_)
  refine ax_Wp.go (f' := (61, [some (.ref 5), some (.ref 83)], [.int (rI m4 83 4), .ref 5])) 3 rfl ?_
  refine ax_Wp.ptI hD rfl rfl rfl (fun m5 hD => ?_)
  obtain rfl := inj hD
  exact ax_Wp.ret rfl ⟨rfl, rfl⟩
def D28_10_88 (m : dM) : Option (dM) := (kI m 89 11 8).bind fun (m1 : dM) => (kI m1 90 12 8).bind fun (m2 : dM) => (kI m2 91 13 8).bind fun (m3 : dM) => (kI m3 92 14 8).bind fun (m4 : dM) => (fI m4 10 4 (rI m4 88 4)).bind fun (m5 : dM) => some m5
set_option maxRecDepth 20000 in
theorem w_28_10_88 {X : Nat × (Nat → Int32)} {d : Nat} {m : dM} {r : dM} (hD : D28_10_88 m = some r) : ax_Ev X (d + 1) 28 [.ref 10, .ref 88] (stt m) (.inl none) (stt r) := by
  unfold D28_10_88 at hD
  show ax_Wp X (d + 0 + 1) 28 (0, [some (.ref 10), some (.ref 88)], []) (stt m) _
  refine ax_Wp.go (f' := (12, [some (.ref 10), some (.ref 88)], [.int (nI 8), .int (nI 0), .ref 11, .int (nI 0), .ref 89])) 7 rfl ?_
  refine ax_Wp.cpI (S' := []) hD rfl rfl (fun _ => rfl) (fun m1 hD => ?_)
  refine ax_Wp.go (f' := (27, [some (.ref 10), some (.ref 88)], [.int (nI 8), .int (nI 0), .ref 12, .int (nI 0), .ref 90])) 7 rfl ?_
  refine ax_Wp.cpI (S' := []) hD rfl rfl (fun _ => rfl) (fun m2 hD => ?_)
  refine ax_Wp.go (f' := (42, [some (.ref 10), some (.ref 88)], [.int (nI 8), .int (nI 0), .ref 13, .int (nI 0), .ref 91])) 7 rfl ?_
  refine ax_Wp.cpI (S' := []) hD rfl rfl (fun _ => rfl) (fun m3 hD => ?_)
  refine ax_Wp.go (f' := (57, [some (.ref 10), some (.ref 88)], [.int (nI 8), .int (nI 0), .ref 14, .int (nI 0), .ref 92])) 7 rfl ?_
  refine ax_Wp.cpI (S' := []) hD rfl rfl (fun _ => rfl) (fun m4 hD => ?_)
  refine ax_Wp.go (f' := (65, [some (.ref 10), some (.ref 88)], [.int (rI m4 88 4), .ref 10])) 3 rfl ?_
  refine ax_Wp.ptI hD rfl rfl rfl (fun m5 hD => ?_)
  obtain rfl := inj hD
  exact ax_Wp.ret rfl ⟨rfl, rfl⟩
def D22_15_93 (m : dM) : Option (dM) := (kL m 94 16 61).bind fun (m1 : dM) => (fI m1 15 1 (rI m1 93 1)).bind fun (m2 : dM) => some m2
set_option maxRecDepth 20000 in
theorem w_22_15_93 {X : Nat × (Nat → Int32)} {d : Nat} {m : dM} {r : dM} (hD : D22_15_93 m = some r) : ax_Ev X (d + 1) 22 [.ref 15, .ref 93] (stt m) (.inl none) (stt r) := by
  unfold D22_15_93 at hD
  show ax_Wp X (d + 0 + 1) 22 (0, [some (.ref 15), some (.ref 93)], []) (stt m) _
  refine ax_Wp.go (f' := (12, [some (.ref 15), some (.ref 93)], [.int (nI 61), .int (nI 0), .ref 16, .int (nI 0), .ref 94])) 7 rfl ?_
  refine ax_Wp.cpL (S' := []) hD rfl rfl (fun _ => rfl) (fun m1 hD => ?_)
  refine ax_Wp.go (f' := (20, [some (.ref 15), some (.ref 93)], [.int (rI m1 93 1), .ref 15])) 3 rfl ?_
  refine ax_Wp.ptI hD rfl rfl rfl (fun m2 hD => ?_)
  obtain rfl := inj hD
  exact ax_Wp.ret rfl ⟨rfl, rfl⟩
def D41_1_79 (m : dM) : Option (dM) := (D58_2_80 m).bind fun (r1 : dM) => (D1_5_83 r1).bind fun (r2 : dM) => (D28_10_88 r2).bind fun (r3 : dM) => (D22_15_93 r3).bind fun (r4 : dM) => (kI r4 95 17 2).bind fun (m5 : dM) => (fI m5 1 5 (rI m5 79 5)).bind fun (m6 : dM) => (fI m6 1 6 (rI m6 79 6)).bind fun (m7 : dM) => (fI m7 1 7 (rI m7 79 7)).bind fun (m8 : dM) => (fI m8 1 8 (rI m8 79 8)).bind fun (m9 : dM) => (fI m9 1 9 (rI m9 79 9)).bind fun (m10 : dM) => some m10
set_option maxRecDepth 20000 in
theorem w_41_1_79 {X : Nat × (Nat → Int32)} {d : Nat} {m : dM} {r : dM} (hD : D41_1_79 m = some r) : ax_Ev X (d + 2) 41 [.ref 1, .ref 79] (stt m) (.inl none) (stt r) := by
  unfold D41_1_79 at hD
  show ax_Wp X (d + 1 + 1) 41 (0, [some (.ref 1), some (.ref 79)], []) (stt m) _
  refine ax_Wp.go (f' := (8, [some (.ref 1), some (.ref 79)], [.ref 80, .ref 2])) 4 rfl ?_
  refine bnd hD (fun r1 hx hD => ?_)
  refine ax_Wp.callE (f' := (11, [some (.ref 1), some (.ref 79)], [])) rfl rfl (w_58_2_80 (d := d + 0) hx) rfl ?_
  refine ax_Wp.go (f' := (19, [some (.ref 1), some (.ref 79)], [.ref 83, .ref 5])) 4 rfl ?_
  refine bnd hD (fun r2 hx hD => ?_)
  refine ax_Wp.callE (f' := (22, [some (.ref 1), some (.ref 79)], [])) rfl rfl (w_1_5_83 (d := d + 0) hx) rfl ?_
  refine ax_Wp.go (f' := (30, [some (.ref 1), some (.ref 79)], [.ref 88, .ref 10])) 4 rfl ?_
  refine bnd hD (fun r3 hx hD => ?_)
  refine ax_Wp.callE (f' := (33, [some (.ref 1), some (.ref 79)], [])) rfl rfl (w_28_10_88 (d := d + 0) hx) rfl ?_
  refine ax_Wp.go (f' := (41, [some (.ref 1), some (.ref 79)], [.ref 93, .ref 15])) 4 rfl ?_
  refine bnd hD (fun r4 hx hD => ?_)
  refine ax_Wp.callE (f' := (44, [some (.ref 1), some (.ref 79)], [])) rfl rfl (w_22_15_93 (d := d + 0) hx) rfl ?_
  refine ax_Wp.go (f' := (55, [some (.ref 1), some (.ref 79)], [.int (nI 2), .int (nI 0), .ref 17, .int (nI 0), .ref 95])) 7 rfl ?_
  refine ax_Wp.cpI (S' := []) hD rfl rfl (fun _ => rfl) (fun m5 hD => ?_)
  refine ax_Wp.go (f' := (63, [some (.ref 1), some (.ref 79)], [.int (rI m5 79 5), .ref 1])) 3 rfl ?_
  refine ax_Wp.ptI hD rfl rfl rfl (fun m6 hD => ?_)
  refine ax_Wp.go (f' := (71, [some (.ref 1), some (.ref 79)], [.int (rI m6 79 6), .ref 1])) 3 rfl ?_
  refine ax_Wp.ptI hD rfl rfl rfl (fun m7 hD => ?_)
  refine ax_Wp.go (f' := (79, [some (.ref 1), some (.ref 79)], [.int (rI m7 79 7), .ref 1])) 3 rfl ?_
  refine ax_Wp.ptI hD rfl rfl rfl (fun m8 hD => ?_)
  refine ax_Wp.go (f' := (87, [some (.ref 1), some (.ref 79)], [.int (rI m8 79 8), .ref 1])) 3 rfl ?_
  refine ax_Wp.ptI hD rfl rfl rfl (fun m9 hD => ?_)
  refine ax_Wp.go (f' := (95, [some (.ref 1), some (.ref 79)], [.int (rI m9 79 9), .ref 1])) 3 rfl ?_
  refine ax_Wp.ptI hD rfl rfl rfl (fun m10 hD => ?_)
  obtain rfl := inj hD
  exact ax_Wp.ret rfl ⟨rfl, rfl⟩
def D58_2_97 (m : dM) : Option (dM) := (kI m 98 3 24).bind fun (m1 : dM) => (kI m1 99 4 24).bind fun (m2 : dM) => (fI m2 2 2 (rI m2 97 2)).bind fun (m3 : dM) => (fI m3 2 3 (rI m3 97 3)).bind fun (m4 : dM) => (fI m4 2 4 (rI m4 97 4)).bind fun (m5 : dM) => some m5
set_option maxRecDepth 20000 in
theorem w_58_2_97 {X : Nat × (Nat → Int32)} {d : Nat} {m : dM} {r : dM} (hD : D58_2_97 m = some r) : ax_Ev X (d + 1) 58 [.ref 2, .ref 97] (stt m) (.inl none) (stt r) := by
  unfold D58_2_97 at hD
  show ax_Wp X (d + 0 + 1) 58 (0, [some (.ref 2), some (.ref 97)], []) (stt m) _
  refine ax_Wp.go (f' := (12, [some (.ref 2), some (.ref 97)], [.int (nI 24), .int (nI 0), .ref 3, .int (nI 0), .ref 98])) 7 rfl ?_
  refine ax_Wp.cpI (S' := []) hD rfl rfl (fun _ => rfl) (fun m1 hD => ?_)
  refine ax_Wp.go (f' := (27, [some (.ref 2), some (.ref 97)], [.int (nI 24), .int (nI 0), .ref 4, .int (nI 0), .ref 99])) 7 rfl ?_
  refine ax_Wp.cpI (S' := []) hD rfl rfl (fun _ => rfl) (fun m2 hD => ?_)
  refine ax_Wp.go (f' := (35, [some (.ref 2), some (.ref 97)], [.int (rI m2 97 2), .ref 2])) 3 rfl ?_
  refine ax_Wp.ptI hD rfl rfl rfl (fun m3 hD => ?_)
  refine ax_Wp.go (f' := (43, [some (.ref 2), some (.ref 97)], [.int (rI m3 97 3), .ref 2])) 3 rfl ?_
  refine ax_Wp.ptI hD rfl rfl rfl (fun m4 hD => ?_)
  refine ax_Wp.go (f' := (51, [some (.ref 2), some (.ref 97)], [.int (rI m4 97 4), .ref 2])) 3 rfl ?_
  refine ax_Wp.ptI hD rfl rfl rfl (fun m5 hD => ?_)
  obtain rfl := inj hD
  exact ax_Wp.ret rfl ⟨rfl, rfl⟩
def D1_5_100 (m : dM) : Option (dM) := (kI m 101 6 4).bind fun (m1 : dM) => (kI m1 102 7 4).bind fun (m2 : dM) => (kI m2 103 8 4).bind fun (m3 : dM) => (kI m3 104 9 4).bind fun (m4 : dM) => (fI m4 5 4 (rI m4 100 4)).bind fun (m5 : dM) => some m5
set_option maxRecDepth 20000 in
theorem w_1_5_100 {X : Nat × (Nat → Int32)} {d : Nat} {m : dM} {r : dM} (hD : D1_5_100 m = some r) : ax_Ev X (d + 1) 1 [.ref 5, .ref 100] (stt m) (.inl none) (stt r) := by
  unfold D1_5_100 at hD
  show ax_Wp X (d + 0 + 1) 1 (0, [some (.ref 5), some (.ref 100)], []) (stt m) _
  refine ax_Wp.go (f' := (11, [some (.ref 5), some (.ref 100)], [.int (nI 4), .int (nI 0), .ref 6, .int (nI 0), .ref 101])) 7 rfl ?_
  refine ax_Wp.cpI (S' := []) hD rfl rfl (fun _ => rfl) (fun m1 hD => ?_)
  refine ax_Wp.go (f' := (25, [some (.ref 5), some (.ref 100)], [.int (nI 4), .int (nI 0), .ref 7, .int (nI 0), .ref 102])) 7 rfl ?_
  refine ax_Wp.cpI (S' := []) hD rfl rfl (fun _ => rfl) (fun m2 hD => ?_)
  refine ax_Wp.go (f' := (39, [some (.ref 5), some (.ref 100)], [.int (nI 4), .int (nI 0), .ref 8, .int (nI 0), .ref 103])) 7 rfl ?_
  refine ax_Wp.cpI (S' := []) hD rfl rfl (fun _ => rfl) (fun m3 hD => ?_)
  refine ax_Wp.go (f' := (53, [some (.ref 5), some (.ref 100)], [.int (nI 4), .int (nI 0), .ref 9, .int (nI 0), .ref 104])) 7 rfl ?_
  refine ax_Wp.cpI (S' := []) hD rfl rfl (fun _ => rfl) (fun m4 hD => ?_)
  refine ax_Wp.go (f' := (61, [some (.ref 5), some (.ref 100)], [.int (rI m4 100 4), .ref 5])) 3 rfl ?_
  refine ax_Wp.ptI hD rfl rfl rfl (fun m5 hD => ?_)
  obtain rfl := inj hD
  exact ax_Wp.ret rfl ⟨rfl, rfl⟩
def D28_10_105 (m : dM) : Option (dM) := (kI m 106 11 8).bind fun (m1 : dM) => (kI m1 107 12 8).bind fun (m2 : dM) => (kI m2 108 13 8).bind fun (m3 : dM) => (kI m3 109 14 8).bind fun (m4 : dM) => (fI m4 10 4 (rI m4 105 4)).bind fun (m5 : dM) => some m5
set_option maxRecDepth 20000 in
theorem w_28_10_105 {X : Nat × (Nat → Int32)} {d : Nat} {m : dM} {r : dM} (hD : D28_10_105 m = some r) : ax_Ev X (d + 1) 28 [.ref 10, .ref 105] (stt m) (.inl none) (stt r) := by
  unfold D28_10_105 at hD
  show ax_Wp X (d + 0 + 1) 28 (0, [some (.ref 10), some (.ref 105)], []) (stt m) _
  refine ax_Wp.go (f' := (12, [some (.ref 10), some (.ref 105)], [.int (nI 8), .int (nI 0), .ref 11, .int (nI 0), .ref 106])) 7 rfl ?_
  refine ax_Wp.cpI (S' := []) hD rfl rfl (fun _ => rfl) (fun m1 hD => ?_)
  refine ax_Wp.go (f' := (27, [some (.ref 10), some (.ref 105)], [.int (nI 8), .int (nI 0), .ref 12, .int (nI 0), .ref 107])) 7 rfl ?_
  refine ax_Wp.cpI (S' := []) hD rfl rfl (fun _ => rfl) (fun m2 hD => ?_)
  refine ax_Wp.go (f' := (42, [some (.ref 10), some (.ref 105)], [.int (nI 8), .int (nI 0), .ref 13, .int (nI 0), .ref 108])) 7 rfl ?_
  refine ax_Wp.cpI (S' := []) hD rfl rfl (fun _ => rfl) (fun m3 hD => ?_)
  refine ax_Wp.go (f' := (57, [some (.ref 10), some (.ref 105)], [.int (nI 8), .int (nI 0), .ref 14, .int (nI 0), .ref 109])) 7 rfl ?_
  refine ax_Wp.cpI (S' := []) hD rfl rfl (fun _ => rfl) (fun m4 hD => ?_)
  refine ax_Wp.go (f' := (65, [some (.ref 10), some (.ref 105)], [.int (rI m4 105 4), .ref 10])) 3 rfl ?_
  refine ax_Wp.ptI hD rfl rfl rfl (fun m5 hD => ?_)
  obtain rfl := inj hD
  exact ax_Wp.ret rfl ⟨rfl, rfl⟩
def D22_15_110 (m : dM) : Option (dM) := (kL m 111 16 61).bind fun (m1 : dM) => (fI m1 15 1 (rI m1 110 1)).bind fun (m2 : dM) => some m2
set_option maxRecDepth 20000 in
theorem w_22_15_110 {X : Nat × (Nat → Int32)} {d : Nat} {m : dM} {r : dM} (hD : D22_15_110 m = some r) : ax_Ev X (d + 1) 22 [.ref 15, .ref 110] (stt m) (.inl none) (stt r) := by
  unfold D22_15_110 at hD
  show ax_Wp X (d + 0 + 1) 22 (0, [some (.ref 15), some (.ref 110)], []) (stt m) _
  refine ax_Wp.go (f' := (12, [some (.ref 15), some (.ref 110)], [.int (nI 61), .int (nI 0), .ref 16, .int (nI 0), .ref 111])) 7 rfl ?_
  refine ax_Wp.cpL (S' := []) hD rfl rfl (fun _ => rfl) (fun m1 hD => ?_)
  refine ax_Wp.go (f' := (20, [some (.ref 15), some (.ref 110)], [.int (rI m1 110 1), .ref 15])) 3 rfl ?_
  refine ax_Wp.ptI hD rfl rfl rfl (fun m2 hD => ?_)
  obtain rfl := inj hD
  exact ax_Wp.ret rfl ⟨rfl, rfl⟩
def D41_1_96 (m : dM) : Option (dM) := (D58_2_97 m).bind fun (r1 : dM) => (D1_5_100 r1).bind fun (r2 : dM) => (D28_10_105 r2).bind fun (r3 : dM) => (D22_15_110 r3).bind fun (r4 : dM) => (kI r4 112 17 2).bind fun (m5 : dM) => (fI m5 1 5 (rI m5 96 5)).bind fun (m6 : dM) => (fI m6 1 6 (rI m6 96 6)).bind fun (m7 : dM) => (fI m7 1 7 (rI m7 96 7)).bind fun (m8 : dM) => (fI m8 1 8 (rI m8 96 8)).bind fun (m9 : dM) => (fI m9 1 9 (rI m9 96 9)).bind fun (m10 : dM) => some m10
set_option maxRecDepth 20000 in
theorem w_41_1_96 {X : Nat × (Nat → Int32)} {d : Nat} {m : dM} {r : dM} (hD : D41_1_96 m = some r) : ax_Ev X (d + 2) 41 [.ref 1, .ref 96] (stt m) (.inl none) (stt r) := by
  unfold D41_1_96 at hD
  show ax_Wp X (d + 1 + 1) 41 (0, [some (.ref 1), some (.ref 96)], []) (stt m) _
  refine ax_Wp.go (f' := (8, [some (.ref 1), some (.ref 96)], [.ref 97, .ref 2])) 4 rfl ?_
  refine bnd hD (fun r1 hx hD => ?_)
  refine ax_Wp.callE (f' := (11, [some (.ref 1), some (.ref 96)], [])) rfl rfl (w_58_2_97 (d := d + 0) hx) rfl ?_
  refine ax_Wp.go (f' := (19, [some (.ref 1), some (.ref 96)], [.ref 100, .ref 5])) 4 rfl ?_
  refine bnd hD (fun r2 hx hD => ?_)
  refine ax_Wp.callE (f' := (22, [some (.ref 1), some (.ref 96)], [])) rfl rfl (w_1_5_100 (d := d + 0) hx) rfl ?_
  refine ax_Wp.go (f' := (30, [some (.ref 1), some (.ref 96)], [.ref 105, .ref 10])) 4 rfl ?_
  refine bnd hD (fun r3 hx hD => ?_)
  refine ax_Wp.callE (f' := (33, [some (.ref 1), some (.ref 96)], [])) rfl rfl (w_28_10_105 (d := d + 0) hx) rfl ?_
  refine ax_Wp.go (f' := (41, [some (.ref 1), some (.ref 96)], [.ref 110, .ref 15])) 4 rfl ?_
  refine bnd hD (fun r4 hx hD => ?_)
  refine ax_Wp.callE (f' := (44, [some (.ref 1), some (.ref 96)], [])) rfl rfl (w_22_15_110 (d := d + 0) hx) rfl ?_
  refine ax_Wp.go (f' := (55, [some (.ref 1), some (.ref 96)], [.int (nI 2), .int (nI 0), .ref 17, .int (nI 0), .ref 112])) 7 rfl ?_
  refine ax_Wp.cpI (S' := []) hD rfl rfl (fun _ => rfl) (fun m5 hD => ?_)
  refine ax_Wp.go (f' := (63, [some (.ref 1), some (.ref 96)], [.int (rI m5 96 5), .ref 1])) 3 rfl ?_
  refine ax_Wp.ptI hD rfl rfl rfl (fun m6 hD => ?_)
  refine ax_Wp.go (f' := (71, [some (.ref 1), some (.ref 96)], [.int (rI m6 96 6), .ref 1])) 3 rfl ?_
  refine ax_Wp.ptI hD rfl rfl rfl (fun m7 hD => ?_)
  refine ax_Wp.go (f' := (79, [some (.ref 1), some (.ref 96)], [.int (rI m7 96 7), .ref 1])) 3 rfl ?_
  refine ax_Wp.ptI hD rfl rfl rfl (fun m8 hD => ?_)
  refine ax_Wp.go (f' := (87, [some (.ref 1), some (.ref 96)], [.int (rI m8 96 8), .ref 1])) 3 rfl ?_
  refine ax_Wp.ptI hD rfl rfl rfl (fun m9 hD => ?_)
  refine ax_Wp.go (f' := (95, [some (.ref 1), some (.ref 96)], [.int (rI m9 96 9), .ref 1])) 3 rfl ?_
  refine ax_Wp.ptI hD rfl rfl rfl (fun m10 hD => ?_)
  obtain rfl := inj hD
  exact ax_Wp.ret rfl ⟨rfl, rfl⟩
def D58_2_114 (m : dM) : Option (dM) := (kI m 115 3 24).bind fun (m1 : dM) => (kI m1 116 4 24).bind fun (m2 : dM) => (fI m2 2 2 (rI m2 114 2)).bind fun (m3 : dM) => (fI m3 2 3 (rI m3 114 3)).bind fun (m4 : dM) => (fI m4 2 4 (rI m4 114 4)).bind fun (m5 : dM) => some m5
set_option maxRecDepth 20000 in
theorem w_58_2_114 {X : Nat × (Nat → Int32)} {d : Nat} {m : dM} {r : dM} (hD : D58_2_114 m = some r) : ax_Ev X (d + 1) 58 [.ref 2, .ref 114] (stt m) (.inl none) (stt r) := by
  unfold D58_2_114 at hD
  show ax_Wp X (d + 0 + 1) 58 (0, [some (.ref 2), some (.ref 114)], []) (stt m) _
  refine ax_Wp.go (f' := (12, [some (.ref 2), some (.ref 114)], [.int (nI 24), .int (nI 0), .ref 3, .int (nI 0), .ref 115])) 7 rfl ?_
  refine ax_Wp.cpI (S' := []) hD rfl rfl (fun _ => rfl) (fun m1 hD => ?_)
  refine ax_Wp.go (f' := (27, [some (.ref 2), some (.ref 114)], [.int (nI 24), .int (nI 0), .ref 4, .int (nI 0), .ref 116])) 7 rfl ?_
  refine ax_Wp.cpI (S' := []) hD rfl rfl (fun _ => rfl) (fun m2 hD => ?_)
  refine ax_Wp.go (f' := (35, [some (.ref 2), some (.ref 114)], [.int (rI m2 114 2), .ref 2])) 3 rfl ?_
  refine ax_Wp.ptI hD rfl rfl rfl (fun m3 hD => ?_)
  refine ax_Wp.go (f' := (43, [some (.ref 2), some (.ref 114)], [.int (rI m3 114 3), .ref 2])) 3 rfl ?_
  refine ax_Wp.ptI hD rfl rfl rfl (fun m4 hD => ?_)
  refine ax_Wp.go (f' := (51, [some (.ref 2), some (.ref 114)], [.int (rI m4 114 4), .ref 2])) 3 rfl ?_
  refine ax_Wp.ptI hD rfl rfl rfl (fun m5 hD => ?_)
  obtain rfl := inj hD
  exact ax_Wp.ret rfl ⟨rfl, rfl⟩
def D1_5_117 (m : dM) : Option (dM) := (kI m 118 6 4).bind fun (m1 : dM) => (kI m1 119 7 4).bind fun (m2 : dM) => (kI m2 120 8 4).bind fun (m3 : dM) => (kI m3 121 9 4).bind fun (m4 : dM) => (fI m4 5 4 (rI m4 117 4)).bind fun (m5 : dM) => some m5
set_option maxRecDepth 20000 in
theorem w_1_5_117 {X : Nat × (Nat → Int32)} {d : Nat} {m : dM} {r : dM} (hD : D1_5_117 m = some r) : ax_Ev X (d + 1) 1 [.ref 5, .ref 117] (stt m) (.inl none) (stt r) := by
  unfold D1_5_117 at hD
  show ax_Wp X (d + 0 + 1) 1 (0, [some (.ref 5), some (.ref 117)], []) (stt m) _
  refine ax_Wp.go (f' := (11, [some (.ref 5), some (.ref 117)], [.int (nI 4), .int (nI 0), .ref 6, .int (nI 0), .ref 118])) 7 rfl ?_
  refine ax_Wp.cpI (S' := []) hD rfl rfl (fun _ => rfl) (fun m1 hD => ?_)
  refine ax_Wp.go (f' := (25, [some (.ref 5), some (.ref 117)], [.int (nI 4), .int (nI 0), .ref 7, .int (nI 0), .ref 119])) 7 rfl ?_
  refine ax_Wp.cpI (S' := []) hD rfl rfl (fun _ => rfl) (fun m2 hD => ?_)
  refine ax_Wp.go (f' := (39, [some (.ref 5), some (.ref 117)], [.int (nI 4), .int (nI 0), .ref 8, .int (nI 0), .ref 120])) 7 rfl ?_
  refine ax_Wp.cpI (S' := []) hD rfl rfl (fun _ => rfl) (fun m3 hD => ?_)
  refine ax_Wp.go (f' := (53, [some (.ref 5), some (.ref 117)], [.int (nI 4), .int (nI 0), .ref 9, .int (nI 0), .ref 121])) 7 rfl ?_
  refine ax_Wp.cpI (S' := []) hD rfl rfl (fun _ => rfl) (fun m4 hD => ?_)
  refine ax_Wp.go (f' := (61, [some (.ref 5), some (.ref 117)], [.int (rI m4 117 4), .ref 5])) 3 rfl ?_
  refine ax_Wp.ptI hD rfl rfl rfl (fun m5 hD => ?_)
  obtain rfl := inj hD
  exact ax_Wp.ret rfl ⟨rfl, rfl⟩
def D28_10_122 (m : dM) : Option (dM) := (kI m 123 11 8).bind fun (m1 : dM) => (kI m1 124 12 8).bind fun (m2 : dM) => (kI m2 125 13 8).bind fun (m3 : dM) => (kI m3 126 14 8).bind fun (m4 : dM) => (fI m4 10 4 (rI m4 122 4)).bind fun (m5 : dM) => some m5
set_option maxRecDepth 20000 in
theorem w_28_10_122 {X : Nat × (Nat → Int32)} {d : Nat} {m : dM} {r : dM} (hD : D28_10_122 m = some r) : ax_Ev X (d + 1) 28 [.ref 10, .ref 122] (stt m) (.inl none) (stt r) := by
  unfold D28_10_122 at hD
  show ax_Wp X (d + 0 + 1) 28 (0, [some (.ref 10), some (.ref 122)], []) (stt m) _
  refine ax_Wp.go (f' := (12, [some (.ref 10), some (.ref 122)], [.int (nI 8), .int (nI 0), .ref 11, .int (nI 0), .ref 123])) 7 rfl ?_
  refine ax_Wp.cpI (S' := []) hD rfl rfl (fun _ => rfl) (fun m1 hD => ?_)
  refine ax_Wp.go (f' := (27, [some (.ref 10), some (.ref 122)], [.int (nI 8), .int (nI 0), .ref 12, .int (nI 0), .ref 124])) 7 rfl ?_
  refine ax_Wp.cpI (S' := []) hD rfl rfl (fun _ => rfl) (fun m2 hD => ?_)
  refine ax_Wp.go (f' := (42, [some (.ref 10), some (.ref 122)], [.int (nI 8), .int (nI 0), .ref 13, .int (nI 0), .ref 125])) 7 rfl ?_
  refine ax_Wp.cpI (S' := []) hD rfl rfl (fun _ => rfl) (fun m3 hD => ?_)
  refine ax_Wp.go (f' := (57, [some (.ref 10), some (.ref 122)], [.int (nI 8), .int (nI 0), .ref 14, .int (nI 0), .ref 126])) 7 rfl ?_
  refine ax_Wp.cpI (S' := []) hD rfl rfl (fun _ => rfl) (fun m4 hD => ?_)
  refine ax_Wp.go (f' := (65, [some (.ref 10), some (.ref 122)], [.int (rI m4 122 4), .ref 10])) 3 rfl ?_
  refine ax_Wp.ptI hD rfl rfl rfl (fun m5 hD => ?_)
  obtain rfl := inj hD
  exact ax_Wp.ret rfl ⟨rfl, rfl⟩
