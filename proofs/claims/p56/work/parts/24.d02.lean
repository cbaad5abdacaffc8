/-! WHAT METHODS DO, printed of their bytecode -/
def D35 (m : dM) : Option (Int32) := Option.bind (lp (β := Int32) 3000 (fun (s1 : Int32 × Int32) => if (rI m 10 4) ≤ s1.2 then some (.inr s1.1) else (gI m 14 8 s1.2).bind fun (x3 : Int32) => Option.bind ((if x3 < (nI 14) then some s1.1 else some (s1.1 + (nI 1))) : Option (Int32)) fun (v4 : Int32) => some (.inl (v4, s1.2 + (nI 1)))) (nI 0, nI 0)) fun (v2 : Int32) => some v2
set_option maxRecDepth 20000 in
theorem w_35 {X : Nat × (Nat → Int32)} {d : Nat} {m : dM} {r : Int32} (hD : D35 m = some r) : ax_Ev X (d + 1) 25 [.ref 10] (stt m) (.inl (some (.int r))) (stt m) := by
  unfold D35 at hD
  show ax_Wp X (d + 0 + 1) 25 (0, [some (.ref 10), none, none], []) (stt m) _
  refine ax_Wp.go (f' := (4, [some (.ref 10), some (.int (nI 0)), some (.int (nI 0))], [])) 4 rfl ?_
  refine bnd hD (fun v2 hx hD => ?_)
  refine ax_Wp.jn (F := (32, [some (.ref 10), some (.int v2), none], [])) (hh := stt m) ?_ (fun kkv2 => ?_)
  · refine ax_Wp.go (f' := (33, [some (.ref 10), some (.int v2), none], [.int v2])) 1 rfl ?_
    obtain rfl := inj hD
    exact ax_Wp.ret rfl ⟨rfl, rfl⟩
  clear hD
  refine ax_Wp.lpD (fun (s1 : Int32 × Int32) => ((4, [some (.ref 10), some (.int s1.1), some (.int s1.2)], []), stt m)) ?_ hx
  clear hx
  intro s1 v hD ks1
  refine ax_Wp.go (f' := (9, [some (.ref 10), some (.int s1.1), some (.int s1.2)], [.int (rI m 10 4), .int s1.2])) 3 rfl ?_
  refine ax_Wp.brD hD rfl (fun _ hD => ?_) (fun _ hD => ?_)
  · obtain rfl := inj hD
    obtain rfl := ks1.o
    exact ax_Wp.dead kkv2 ⟨.inl rfl, ⟨.inl rfl, ⟨.inr ⟨rfl, trivial⟩, trivial⟩⟩⟩
  · refine ax_Wp.go (f' := (17, [some (.ref 10), some (.int s1.1), some (.int s1.2)], [.int s1.2, .ref 14])) 3 rfl ?_
    refine ax_Wp.rdI hD rfl rfl rfl (fun x3 hD => ?_)
    refine ax_Wp.go (f' := (20, [some (.ref 10), some (.int s1.1), some (.int s1.2)], [.int (nI 14), .int x3])) 1 rfl ?_
    refine bnd hD (fun v4 hx hD => ?_)
    refine ax_Wp.jn (F := (26, [some (.ref 10), some (.int v4), some (.int s1.2)], [])) (hh := stt m) ?_ (fun kkv4 => ?_)
    · refine ax_Wp.go (f' := (4, [some (.ref 10), some (.int v4), some (.int (s1.2 + (nI 1)))], [])) 2 rfl ?_
      obtain rfl := inj hD
      exact ks1.i
    clear hD
    have hD := hx
    clear hx
    refine ax_Wp.brD hD rfl (fun _ hD => ?_) (fun _ hD => ?_)
    · obtain rfl := inj hD
      exact kkv4
    · refine ax_Wp.go (f' := (26, [some (.ref 10), some (.int (s1.1 + (nI 1))), some (.int s1.2)], [])) 1 rfl ?_
      obtain rfl := inj hD
      exact kkv4
def D44 (m : dM) : Option (Int32) := if (rI m 10 4) ≤ (nI 0) then (D42 m).bind fun (x1 : Int64) => (D24 m x1).bind fun (x2 : Int32) => if x2 < (nI 3) then Option.bind ((if (rI m 1 7) < (rI m 1 6) then some (nI 0) else some (nI 3)) : Option (Int32)) fun (v3 : Int32) => some v3 else some (nI 2) else (D35 m).bind fun (x4 : Int32) => if x4 = (rI m 10 4) then some (nI 1) else (D42 m).bind fun (x5 : Int64) => (D24 m x5).bind fun (x6 : Int32) => if x6 < (nI 3) then Option.bind ((if (rI m 1 7) < (rI m 1 6) then some (nI 0) else some (nI 3)) : Option (Int32)) fun (v7 : Int32) => some v7 else some (nI 2)
set_option maxRecDepth 20000 in
theorem w_44 {X : Nat × (Nat → Int32)} {d : Nat} {m : dM} {r : Int32} (hD : D44 m = some r) : ax_Ev X (d + 2) 34 [.ref 1] (stt m) (.inl (some (.int r))) (stt m) := by
  unfold D44 at hD
  show ax_Wp X (d + 1 + 1) 34 (0, [some (.ref 1)], []) (stt m) _
  refine ax_Wp.go (f' := (7, [some (.ref 1)], [.int (rI m 10 4)])) 3 rfl ?_
  refine ax_Wp.brD hD rfl (fun _ hD => ?_) (fun _ hD => ?_)
  · refine ax_Wp.go (f' := (34, [some (.ref 1)], [.ref 1, .ref 15])) 3 rfl ?_
    refine bnd hD (fun x1 hx hD => ?_)
    refine ax_Wp.callE (f' := (37, [some (.ref 1)], [.ref 15])) rfl rfl (w_42 (d := d + 0) hx) rfl ?_
    refine bnd hD (fun x2 hx hD => ?_)
    refine ax_Wp.callE (f' := (40, [some (.ref 1)], [])) rfl rfl (w_24 (d := d + 0) hx) rfl ?_
    refine ax_Wp.go (f' := (41, [some (.ref 1)], [.int (nI 3), .int x2])) 1 rfl ?_
    refine ax_Wp.brD hD rfl (fun _ hD => ?_) (fun _ hD => ?_)
    · refine ax_Wp.go (f' := (54, [some (.ref 1)], [.int (rI m 1 6), .int (rI m 1 7)])) 4 rfl ?_
      refine bnd hD (fun v3 hx hD => ?_)
      refine ax_Wp.jn (F := (62, [some (.ref 1)], [.int v3])) (hh := stt m) ?_ (fun kkv3 => ?_)
      · obtain rfl := inj hD
        exact ax_Wp.ret rfl ⟨rfl, rfl⟩
      clear hD
      have hD := hx
      clear hx
      refine ax_Wp.brD hD rfl (fun _ hD => ?_) (fun _ hD => ?_)
      · refine ax_Wp.go (f' := (62, [some (.ref 1)], [.int (nI 0)])) 1 rfl ?_
        obtain rfl := inj hD
        exact kkv3
      · refine ax_Wp.go (f' := (62, [some (.ref 1)], [.int (nI 3)])) 2 rfl ?_
        obtain rfl := inj hD
        exact kkv3
    · refine ax_Wp.go (f' := (45, [some (.ref 1)], [.int (nI 2)])) 1 rfl ?_
      obtain rfl := inj hD
      exact ax_Wp.ret rfl ⟨rfl, rfl⟩
  · refine ax_Wp.go (f' := (14, [some (.ref 1)], [.ref 10])) 2 rfl ?_
    refine bnd hD (fun x4 hx hD => ?_)
    refine ax_Wp.callE (f' := (17, [some (.ref 1)], [])) rfl rfl (w_35 (d := d + 0) hx) rfl ?_
    refine ax_Wp.go (f' := (24, [some (.ref 1)], [.int (rI m 10 4), .int x4])) 3 rfl ?_
    refine ax_Wp.brD hD rfl (fun _ hD => ?_) (fun _ hD => ?_)
    · refine ax_Wp.go (f' := (28, [some (.ref 1)], [.int (nI 1)])) 1 rfl ?_
      obtain rfl := inj hD
      exact ax_Wp.ret rfl ⟨rfl, rfl⟩
    · refine ax_Wp.go (f' := (34, [some (.ref 1)], [.ref 1, .ref 15])) 3 rfl ?_
      refine bnd hD (fun x5 hx hD => ?_)
      refine ax_Wp.callE (f' := (37, [some (.ref 1)], [.ref 15])) rfl rfl (w_42 (d := d + 0) hx) rfl ?_
      refine bnd hD (fun x6 hx hD => ?_)
      refine ax_Wp.callE (f' := (40, [some (.ref 1)], [])) rfl rfl (w_24 (d := d + 0) hx) rfl ?_
      refine ax_Wp.go (f' := (41, [some (.ref 1)], [.int (nI 3), .int x6])) 1 rfl ?_
      refine ax_Wp.brD hD rfl (fun _ hD => ?_) (fun _ hD => ?_)
      · refine ax_Wp.go (f' := (54, [some (.ref 1)], [.int (rI m 1 6), .int (rI m 1 7)])) 4 rfl ?_
        refine bnd hD (fun v7 hx hD => ?_)
        refine ax_Wp.jn (F := (62, [some (.ref 1)], [.int v7])) (hh := stt m) ?_ (fun kkv7 => ?_)
        · obtain rfl := inj hD
          exact ax_Wp.ret rfl ⟨rfl, rfl⟩
        clear hD
        have hD := hx
        clear hx
        refine ax_Wp.brD hD rfl (fun _ hD => ?_) (fun _ hD => ?_)
        · refine ax_Wp.go (f' := (62, [some (.ref 1)], [.int (nI 0)])) 1 rfl ?_
          obtain rfl := inj hD
          exact kkv7
        · refine ax_Wp.go (f' := (62, [some (.ref 1)], [.int (nI 3)])) 2 rfl ?_
          obtain rfl := inj hD
          exact kkv7
      · refine ax_Wp.go (f' := (45, [some (.ref 1)], [.int (nI 2)])) 1 rfl ?_
        obtain rfl := inj hD
        exact ax_Wp.ret rfl ⟨rfl, rfl⟩
def D112 (m : dM) : Option (Int32) := (D44 m).bind fun (x1 : Int32) => some x1
set_option maxRecDepth 20000 in
theorem w_112 {X : Nat × (Nat → Int32)} {d : Nat} {m : dM} {r : Int32} (hD : D112 m = some r) : ax_Ev X (d + 3) 91 [.ref 0] (stt m) (.inl (some (.int r))) (stt m) := by
  unfold D112 at hD
  show ax_Wp X (d + 2 + 1) 91 (0, [some (.ref 0)], []) (stt m) _
  refine ax_Wp.go (f' := (4, [some (.ref 0)], [.ref 1])) 2 rfl ?_
  refine bnd hD (fun x1 hx hD => ?_)
  refine ax_Wp.callE (f' := (7, [some (.ref 0)], [])) rfl rfl (w_44 (d := d + 0) hx) rfl ?_
  obtain rfl := inj hD
  exact ax_Wp.ret rfl ⟨rfl, rfl⟩
def D9 (m : dM) (p0 : Int32) (p1 : Int32) (p2 : Int32) (p3 : Int32) : Option (Int32) := Option.bind (lp (β := Int32 × Int32 × Int32 × Int32) 3000 (fun (s1 : Int32 × Int32 × Int32 × Int32 × Int32) => if (nI 4) ≤ s1.2.2.2.2 then some (.inr (s1.1, s1.2.1, s1.2.2.1, s1.2.2.2.1)) else Option.bind ((if s1.2.2.2.2 = p0 then some (s1.1, s1.2.1, s1.2.2.1, s1.2.2.2.1) else (gI m 40 4 s1.2.2.2.2).bind fun (x4 : Int32) => if x4 = (nI 0) then (gI m 38 4 s1.2.2.2.2).bind fun (x5 : Int32) => if x5 = p2 then Option.bind ((if s1.2.1 = (nI 0) then (gI m 39 4 s1.2.2.2.2).bind fun (x7 : Int32) => if x7 ≤ p3 then some (nI 0) else some (nI 1) else some (nI 1)) : Option (Int32)) fun (v6 : Int32) => Option.bind ((if s1.2.2.1 = (nI 0) then (gI m 39 4 s1.2.2.2.2).bind fun (x9 : Int32) => if x9 = p3 then some (nI 1) else some (nI 0) else some (nI 1)) : Option (Int32)) fun (v8 : Int32) => some (s1.1, v6, v8, s1.2.2.2.1) else Option.bind ((if s1.1 = (nI 0) then (gI m 38 4 s1.2.2.2.2).bind fun (x11 : Int32) => if x11 = p1 then (gI m 37 4 s1.2.2.2.2).bind fun (x12 : Int32) => if x12 = p2 then some (nI 1) else some (nI 0) else some (nI 0) else some (nI 1)) : Option (Int32)) fun (v10 : Int32) => some (v10, s1.2.1, s1.2.2.1, s1.2.2.2.1) else Option.bind ((if s1.2.2.2.1 = (nI 0) then (gI m 37 4 s1.2.2.2.2).bind fun (x14 : Int32) => if x14 = p2 then some (nI 1) else some (nI 0) else some (nI 1)) : Option (Int32)) fun (v13 : Int32) => some (s1.1, s1.2.1, s1.2.2.1, v13)) : Option (Int32 × Int32 × Int32 × Int32)) fun (v3 : Int32 × Int32 × Int32 × Int32) => some (.inl (v3.1, v3.2.1, v3.2.2.1, v3.2.2.2, s1.2.2.2.2 + (nI 1)))) (nI 0, nI 0, nI 0, nI 0, nI 0)) fun (v2 : Int32 × Int32 × Int32 × Int32) => if v2.1 = (nI 0) then if v2.2.1 = (nI 0) then if v2.2.2.1 = (nI 0) then Option.bind ((if v2.2.2.2 = (nI 0) then some (nI 0) else some (nI 5)) : Option (Int32)) fun (v15 : Int32) => some v15 else some (nI 4) else some (nI 3) else some (nI 2)
set_option maxRecDepth 20000 in
theorem w_9 {X : Nat × (Nat → Int32)} {d : Nat} {m : dM} {p0 : Int32} {p1 : Int32} {p2 : Int32} {p3 : Int32} {r : Int32} (hD : D9 m p0 p1 p2 p3 = some r) : ax_Ev X (d + 1) 9 [.ref 36, .int p0, .int p1, .int p2, .int p3] (stt m) (.inl (some (.int r))) (stt m) := by
  unfold D9 at hD
  show ax_Wp X (d + 0 + 1) 9 (0, [some (.ref 36), some (.int p0), some (.int p1), some (.int p2), some (.int p3), none, none, none, none, none], []) (stt m) _
  refine ax_Wp.go (f' := (15, [some (.ref 36), some (.int p0), some (.int p1), some (.int p2), some (.int p3), some (.int (nI 0)), some (.int (nI 0)), some (.int (nI 0)), some (.int (nI 0)), some (.int (nI 0))], [])) 10 rfl ?_
  refine bnd hD (fun v2 hx hD => ?_)
  refine ax_Wp.jn (F := (168, [some (.ref 36), none, none, none, none, some (.int v2.1), some (.int v2.2.1), some (.int v2.2.2.1), some (.int v2.2.2.2), none], [])) (hh := stt m) ?_ (fun kkv2 => ?_)
  · refine ax_Wp.go (f' := (170, [some (.ref 36), none, none, none, none, some (.int v2.1), some (.int v2.2.1), some (.int v2.2.2.1), some (.int v2.2.2.2), none], [.int v2.1])) 1 rfl ?_
    refine ax_Wp.brD hD rfl (fun _ hD => ?_) (fun _ hD => ?_)
    · refine ax_Wp.go (f' := (177, [some (.ref 36), none, none, none, none, some (.int v2.1), some (.int v2.2.1), some (.int v2.2.2.1), some (.int v2.2.2.2), none], [.int v2.2.1])) 1 rfl ?_
      refine ax_Wp.brD hD rfl (fun _ hD => ?_) (fun _ hD => ?_)
      · refine ax_Wp.go (f' := (184, [some (.ref 36), none, none, none, none, some (.int v2.1), some (.int v2.2.1), some (.int v2.2.2.1), some (.int v2.2.2.2), none], [.int v2.2.2.1])) 1 rfl ?_
        refine ax_Wp.brD hD rfl (fun _ hD => ?_) (fun _ hD => ?_)
        · refine ax_Wp.go (f' := (191, [some (.ref 36), none, none, none, none, some (.int v2.1), some (.int v2.2.1), some (.int v2.2.2.1), some (.int v2.2.2.2), none], [.int v2.2.2.2])) 1 rfl ?_
          refine bnd hD (fun v15 hx hD => ?_)
          refine ax_Wp.jn (F := (199, [some (.ref 36), none, none, none, none, none, none, none, none, none], [.int v15])) (hh := stt m) ?_ (fun kkv15 => ?_)
          · obtain rfl := inj hD
            exact ax_Wp.ret rfl ⟨rfl, rfl⟩
          clear hD
          have hD := hx
          clear hx
          refine ax_Wp.brD hD rfl (fun _ hD => ?_) (fun _ hD => ?_)
          · refine ax_Wp.go (f' := (199, [some (.ref 36), none, none, none, none, some (.int v2.1), some (.int v2.2.1), some (.int v2.2.2.1), some (.int v2.2.2.2), none], [.int (nI 0)])) 1 rfl ?_
            obtain rfl := inj hD
            exact ax_Wp.dead kkv15 ⟨.inl rfl, ⟨.inl rfl, ⟨.inl rfl, ⟨.inl rfl, ⟨.inl rfl, ⟨.inr ⟨rfl, trivial⟩, ⟨.inr ⟨rfl, trivial⟩, ⟨.inr ⟨rfl, trivial⟩, ⟨.inr ⟨rfl, trivial⟩, ⟨.inl rfl, trivial⟩⟩⟩⟩⟩⟩⟩⟩⟩⟩
          · refine ax_Wp.go (f' := (199, [some (.ref 36), none, none, none, none, some (.int v2.1), some (.int v2.2.1), some (.int v2.2.2.1), some (.int v2.2.2.2), none], [.int (nI 5)])) 2 rfl ?_
            obtain rfl := inj hD
            exact ax_Wp.dead kkv15 ⟨.inl rfl, ⟨.inl rfl, ⟨.inl rfl, ⟨.inl rfl, ⟨.inl rfl, ⟨.inr ⟨rfl, trivial⟩, ⟨.inr ⟨rfl, trivial⟩, ⟨.inr ⟨rfl, trivial⟩, ⟨.inr ⟨rfl, trivial⟩, ⟨.inl rfl, trivial⟩⟩⟩⟩⟩⟩⟩⟩⟩⟩
        · refine ax_Wp.go (f' := (188, [some (.ref 36), none, none, none, none, some (.int v2.1), some (.int v2.2.1), some (.int v2.2.2.1), some (.int v2.2.2.2), none], [.int (nI 4)])) 1 rfl ?_
          obtain rfl := inj hD
          exact ax_Wp.ret rfl ⟨rfl, rfl⟩
      · refine ax_Wp.go (f' := (181, [some (.ref 36), none, none, none, none, some (.int v2.1), some (.int v2.2.1), some (.int v2.2.2.1), some (.int v2.2.2.2), none], [.int (nI 3)])) 1 rfl ?_
        obtain rfl := inj hD
        exact ax_Wp.ret rfl ⟨rfl, rfl⟩
    · refine ax_Wp.go (f' := (174, [some (.ref 36), none, none, none, none, some (.int v2.1), some (.int v2.2.1), some (.int v2.2.2.1), some (.int v2.2.2.2), none], [.int (nI 2)])) 1 rfl ?_
      obtain rfl := inj hD
      exact ax_Wp.ret rfl ⟨rfl, rfl⟩
  clear hD
  refine ax_Wp.lpD (fun (s1 : Int32 × Int32 × Int32 × Int32 × Int32) => ((15, [some (.ref 36), some (.int p0), some (.int p1), some (.int p2), some (.int p3), some (.int s1.1), some (.int s1.2.1), some (.int s1.2.2.1), some (.int s1.2.2.2.1), some (.int s1.2.2.2.2)], []), stt m)) ?_ hx
  clear hx
  intro s1 v hD ks1
  refine ax_Wp.go (f' := (18, [some (.ref 36), some (.int p0), some (.int p1), some (.int p2), some (.int p3), some (.int s1.1), some (.int s1.2.1), some (.int s1.2.2.1), some (.int s1.2.2.2.1), some (.int s1.2.2.2.2)], [.int (nI 4), .int s1.2.2.2.2])) 2 rfl ?_
  refine ax_Wp.brD hD rfl (fun _ hD => ?_) (fun _ hD => ?_)
  · obtain rfl := inj hD
    obtain rfl := ks1.o
    exact ax_Wp.dead kkv2 ⟨.inl rfl, ⟨.inr ⟨rfl, trivial⟩, ⟨.inr ⟨rfl, trivial⟩, ⟨.inr ⟨rfl, trivial⟩, ⟨.inr ⟨rfl, trivial⟩, ⟨.inl rfl, ⟨.inl rfl, ⟨.inl rfl, ⟨.inl rfl, ⟨.inr ⟨rfl, trivial⟩, trivial⟩⟩⟩⟩⟩⟩⟩⟩⟩⟩
  · refine ax_Wp.go (f' := (24, [some (.ref 36), some (.int p0), some (.int p1), some (.int p2), some (.int p3), some (.int s1.1), some (.int s1.2.1), some (.int s1.2.2.1), some (.int s1.2.2.2.1), some (.int s1.2.2.2.2)], [.int p0, .int s1.2.2.2.2])) 2 rfl ?_
    refine bnd hD (fun v3 hx hD => ?_)
    refine ax_Wp.jn (F := (162, [some (.ref 36), some (.int p0), some (.int p1), some (.int p2), some (.int p3), some (.int v3.1), some (.int v3.2.1), some (.int v3.2.2.1), some (.int v3.2.2.2), some (.int s1.2.2.2.2)], [])) (hh := stt m) ?_ (fun kkv3 => ?_)
    · refine ax_Wp.go (f' := (15, [some (.ref 36), some (.int p0), some (.int p1), some (.int p2), some (.int p3), some (.int v3.1), some (.int v3.2.1), some (.int v3.2.2.1), some (.int v3.2.2.2), some (.int (s1.2.2.2.2 + (nI 1)))], [])) 2 rfl ?_
      obtain rfl := inj hD
      exact ks1.i
    clear hD
    have hD := hx
    clear hx
    refine ax_Wp.brD hD rfl (fun _ hD => ?_) (fun _ hD => ?_)
    · refine ax_Wp.go (f' := (162, [some (.ref 36), some (.int p0), some (.int p1), some (.int p2), some (.int p3), some (.int s1.1), some (.int s1.2.1), some (.int s1.2.2.1), some (.int s1.2.2.2.1), some (.int s1.2.2.2.2)], [])) 1 rfl ?_
      obtain rfl := inj hD
      exact kkv3
    · refine ax_Wp.go (f' := (36, [some (.ref 36), some (.int p0), some (.int p1), some (.int p2), some (.int p3), some (.int s1.1), some (.int s1.2.1), some (.int s1.2.2.1), some (.int s1.2.2.2.1), some (.int s1.2.2.2.2)], [.int s1.2.2.2.2, .ref 40])) 3 rfl ?_
      refine ax_Wp.rdI hD rfl rfl rfl (fun x4 hD => ?_)
      refine ax_Wp.brD hD rfl (fun _ hD => ?_) (fun _ hD => ?_)
      · refine ax_Wp.go (f' := (72, [some (.ref 36), some (.int p0), some (.int p1), some (.int p2), some (.int p3), some (.int s1.1), some (.int s1.2.1), some (.int s1.2.2.1), some (.int s1.2.2.2.1), some (.int s1.2.2.2.2)], [.int s1.2.2.2.2, .ref 38])) 3 rfl ?_
        refine ax_Wp.rdI hD rfl rfl rfl (fun x5 hD => ?_)
        refine ax_Wp.go (f' := (74, [some (.ref 36), some (.int p0), some (.int p1), some (.int p2), some (.int p3), some (.int s1.1), some (.int s1.2.1), some (.int s1.2.2.1), some (.int s1.2.2.2.1), some (.int s1.2.2.2.2)], [.int p2, .int x5])) 1 rfl ?_
        refine ax_Wp.brD hD rfl (fun _ hD => ?_) (fun _ hD => ?_)
        · refine ax_Wp.go (f' := (79, [some (.ref 36), some (.int p0), some (.int p1), some (.int p2), some (.int p3), some (.int s1.1), some (.int s1.2.1), some (.int s1.2.2.1), some (.int s1.2.2.2.1), some (.int s1.2.2.2.2)], [.int s1.2.1])) 1 rfl ?_
          refine bnd hD (fun v6 hx hD => ?_)
          refine ax_Wp.jn (F := (99, [some (.ref 36), some (.int p0), some (.int p1), some (.int p2), some (.int p3), some (.int s1.1), none, some (.int s1.2.2.1), some (.int s1.2.2.2.1), some (.int s1.2.2.2.2)], [.int v6])) (hh := stt m) ?_ (fun kkv6 => ?_)
          · refine ax_Wp.go (f' := (103, [some (.ref 36), some (.int p0), some (.int p1), some (.int p2), some (.int p3), some (.int s1.1), some (.int v6), some (.int s1.2.2.1), some (.int s1.2.2.2.1), some (.int s1.2.2.2.2)], [.int s1.2.2.1])) 2 rfl ?_
            refine bnd hD (fun v8 hx hD => ?_)
            refine ax_Wp.jn (F := (123, [some (.ref 36), some (.int p0), some (.int p1), some (.int p2), some (.int p3), some (.int s1.1), some (.int v6), none, some (.int s1.2.2.2.1), some (.int s1.2.2.2.2)], [.int v8])) (hh := stt m) ?_ (fun kkv8 => ?_)
            · refine ax_Wp.go (f' := (162, [some (.ref 36), some (.int p0), some (.int p1), some (.int p2), some (.int p3), some (.int s1.1), some (.int v6), some (.int v8), some (.int s1.2.2.2.1), some (.int s1.2.2.2.2)], [])) 2 rfl ?_
              obtain rfl := inj hD
              exact kkv3
            clear hD
            have hD := hx
            clear hx
            refine ax_Wp.brD hD rfl (fun _ hD => ?_) (fun _ hD => ?_)
            · refine ax_Wp.go (f' := (112, [some (.ref 36), some (.int p0), some (.int p1), some (.int p2), some (.int p3), some (.int s1.1), some (.int v6), some (.int s1.2.2.1), some (.int s1.2.2.2.1), some (.int s1.2.2.2.2)], [.int s1.2.2.2.2, .ref 39])) 3 rfl ?_
              refine ax_Wp.rdI hD rfl rfl rfl (fun x9 hD => ?_)
              refine ax_Wp.go (f' := (115, [some (.ref 36), some (.int p0), some (.int p1), some (.int p2), some (.int p3), some (.int s1.1), some (.int v6), some (.int s1.2.2.1), some (.int s1.2.2.2.1), some (.int s1.2.2.2.2)], [.int p3, .int x9])) 1 rfl ?_
              refine ax_Wp.brD hD rfl (fun _ hD => ?_) (fun _ hD => ?_)
              · refine ax_Wp.go (f' := (123, [some (.ref 36), some (.int p0), some (.int p1), some (.int p2), some (.int p3), some (.int s1.1), some (.int v6), some (.int s1.2.2.1), some (.int s1.2.2.2.1), some (.int s1.2.2.2.2)], [.int (nI 1)])) 2 rfl ?_
                obtain rfl := inj hD
                exact ax_Wp.dead kkv8 ⟨.inl rfl, ⟨.inl rfl, ⟨.inl rfl, ⟨.inl rfl, ⟨.inl rfl, ⟨.inl rfl, ⟨.inl rfl, ⟨.inr ⟨rfl, trivial⟩, ⟨.inl rfl, ⟨.inl rfl, trivial⟩⟩⟩⟩⟩⟩⟩⟩⟩⟩
              · refine ax_Wp.go (f' := (123, [some (.ref 36), some (.int p0), some (.int p1), some (.int p2), some (.int p3), some (.int s1.1), some (.int v6), some (.int s1.2.2.1), some (.int s1.2.2.2.1), some (.int s1.2.2.2.2)], [.int (nI 0)])) 1 rfl ?_
                obtain rfl := inj hD
                exact ax_Wp.dead kkv8 ⟨.inl rfl, ⟨.inl rfl, ⟨.inl rfl, ⟨.inl rfl, ⟨.inl rfl, ⟨.inl rfl, ⟨.inl rfl, ⟨.inr ⟨rfl, trivial⟩, ⟨.inl rfl, ⟨.inl rfl, trivial⟩⟩⟩⟩⟩⟩⟩⟩⟩⟩
            · refine ax_Wp.go (f' := (123, [some (.ref 36), some (.int p0), some (.int p1), some (.int p2), some (.int p3), some (.int s1.1), some (.int v6), some (.int s1.2.2.1), some (.int s1.2.2.2.1), some (.int s1.2.2.2.2)], [.int (nI 1)])) 2 rfl ?_
              obtain rfl := inj hD
              exact ax_Wp.dead kkv8 ⟨.inl rfl, ⟨.inl rfl, ⟨.inl rfl, ⟨.inl rfl, ⟨.inl rfl, ⟨.inl rfl, ⟨.inl rfl, ⟨.inr ⟨rfl, trivial⟩, ⟨.inl rfl, ⟨.inl rfl, trivial⟩⟩⟩⟩⟩⟩⟩⟩⟩⟩
          clear hD
          have hD := hx
          clear hx
          refine ax_Wp.brD hD rfl (fun _ hD => ?_) (fun _ hD => ?_)
          · refine ax_Wp.go (f' := (88, [some (.ref 36), some (.int p0), some (.int p1), some (.int p2), some (.int p3), some (.int s1.1), some (.int s1.2.1), some (.int s1.2.2.1), some (.int s1.2.2.2.1), some (.int s1.2.2.2.2)], [.int s1.2.2.2.2, .ref 39])) 3 rfl ?_
            refine ax_Wp.rdI hD rfl rfl rfl (fun x7 hD => ?_)
            refine ax_Wp.go (f' := (91, [some (.ref 36), some (.int p0), some (.int p1), some (.int p2), some (.int p3), some (.int s1.1), some (.int s1.2.1), some (.int s1.2.2.1), some (.int s1.2.2.2.1), some (.int s1.2.2.2.2)], [.int p3, .int x7])) 1 rfl ?_
            refine ax_Wp.brD hD rfl (fun _ hD => ?_) (fun _ hD => ?_)
            · refine ax_Wp.go (f' := (99, [some (.ref 36), some (.int p0), some (.int p1), some (.int p2), some (.int p3), some (.int s1.1), some (.int s1.2.1), some (.int s1.2.2.1), some (.int s1.2.2.2.1), some (.int s1.2.2.2.2)], [.int (nI 0)])) 1 rfl ?_
              obtain rfl := inj hD
              exact ax_Wp.dead kkv6 ⟨.inl rfl, ⟨.inl rfl, ⟨.inl rfl, ⟨.inl rfl, ⟨.inl rfl, ⟨.inl rfl, ⟨.inr ⟨rfl, trivial⟩, ⟨.inl rfl, ⟨.inl rfl, ⟨.inl rfl, trivial⟩⟩⟩⟩⟩⟩⟩⟩⟩⟩
            · refine ax_Wp.go (f' := (99, [some (.ref 36), some (.int p0), some (.int p1), some (.int p2), some (.int p3), some (.int s1.1), some (.int s1.2.1), some (.int s1.2.2.1), some (.int s1.2.2.2.1), some (.int s1.2.2.2.2)], [.int (nI 1)])) 2 rfl ?_
              obtain rfl := inj hD
              exact ax_Wp.dead kkv6 ⟨.inl rfl, ⟨.inl rfl, ⟨.inl rfl, ⟨.inl rfl, ⟨.inl rfl, ⟨.inl rfl, ⟨.inr ⟨rfl, trivial⟩, ⟨.inl rfl, ⟨.inl rfl, ⟨.inl rfl, trivial⟩⟩⟩⟩⟩⟩⟩⟩⟩⟩
          · refine ax_Wp.go (f' := (99, [some (.ref 36), some (.int p0), some (.int p1), some (.int p2), some (.int p3), some (.int s1.1), some (.int s1.2.1), some (.int s1.2.2.1), some (.int s1.2.2.2.1), some (.int s1.2.2.2.2)], [.int (nI 1)])) 2 rfl ?_
            obtain rfl := inj hD
            exact ax_Wp.dead kkv6 ⟨.inl rfl, ⟨.inl rfl, ⟨.inl rfl, ⟨.inl rfl, ⟨.inl rfl, ⟨.inl rfl, ⟨.inr ⟨rfl, trivial⟩, ⟨.inl rfl, ⟨.inl rfl, ⟨.inl rfl, trivial⟩⟩⟩⟩⟩⟩⟩⟩⟩⟩
        · refine ax_Wp.go (f' := (130, [some (.ref 36), some (.int p0), some (.int p1), some (.int p2), some (.int p3), some (.int s1.1), some (.int s1.2.1), some (.int s1.2.2.1), some (.int s1.2.2.2.1), some (.int s1.2.2.2.2)], [.int s1.1])) 1 rfl ?_
          refine bnd hD (fun v10 hx hD => ?_)
          refine ax_Wp.jn (F := (160, [some (.ref 36), some (.int p0), some (.int p1), some (.int p2), some (.int p3), none, some (.int s1.2.1), some (.int s1.2.2.1), some (.int s1.2.2.2.1), some (.int s1.2.2.2.2)], [.int v10])) (hh := stt m) ?_ (fun kkv10 => ?_)
          · refine ax_Wp.go (f' := (162, [some (.ref 36), some (.int p0), some (.int p1), some (.int p2), some (.int p3), some (.int v10), some (.int s1.2.1), some (.int s1.2.2.1), some (.int s1.2.2.2.1), some (.int s1.2.2.2.2)], [])) 1 rfl ?_
            obtain rfl := inj hD
            exact kkv3
          clear hD
          have hD := hx
          clear hx
          refine ax_Wp.brD hD rfl (fun _ hD => ?_) (fun _ hD => ?_)
          · refine ax_Wp.go (f' := (139, [some (.ref 36), some (.int p0), some (.int p1), some (.int p2), some (.int p3), some (.int s1.1), some (.int s1.2.1), some (.int s1.2.2.1), some (.int s1.2.2.2.1), some (.int s1.2.2.2.2)], [.int s1.2.2.2.2, .ref 38])) 3 rfl ?_
            refine ax_Wp.rdI hD rfl rfl rfl (fun x11 hD => ?_)
            refine ax_Wp.go (f' := (141, [some (.ref 36), some (.int p0), some (.int p1), some (.int p2), some (.int p3), some (.int s1.1), some (.int s1.2.1), some (.int s1.2.2.1), some (.int s1.2.2.2.1), some (.int s1.2.2.2.2)], [.int p1, .int x11])) 1 rfl ?_
            refine ax_Wp.brD hD rfl (fun _ hD => ?_) (fun _ hD => ?_)
            · refine ax_Wp.go (f' := (150, [some (.ref 36), some (.int p0), some (.int p1), some (.int p2), some (.int p3), some (.int s1.1), some (.int s1.2.1), some (.int s1.2.2.1), some (.int s1.2.2.2.1), some (.int s1.2.2.2.2)], [.int s1.2.2.2.2, .ref 37])) 3 rfl ?_
              refine ax_Wp.rdI hD rfl rfl rfl (fun x12 hD => ?_)
              refine ax_Wp.go (f' := (152, [some (.ref 36), some (.int p0), some (.int p1), some (.int p2), some (.int p3), some (.int s1.1), some (.int s1.2.1), some (.int s1.2.2.1), some (.int s1.2.2.2.1), some (.int s1.2.2.2.2)], [.int p2, .int x12])) 1 rfl ?_
              refine ax_Wp.brD hD rfl (fun _ hD => ?_) (fun _ hD => ?_)
              · refine ax_Wp.go (f' := (160, [some (.ref 36), some (.int p0), some (.int p1), some (.int p2), some (.int p3), some (.int s1.1), some (.int s1.2.1), some (.int s1.2.2.1), some (.int s1.2.2.2.1), some (.int s1.2.2.2.2)], [.int (nI 1)])) 2 rfl ?_
                obtain rfl := inj hD
                exact ax_Wp.dead kkv10 ⟨.inl rfl, ⟨.inl rfl, ⟨.inl rfl, ⟨.inl rfl, ⟨.inl rfl, ⟨.inr ⟨rfl, trivial⟩, ⟨.inl rfl, ⟨.inl rfl, ⟨.inl rfl, ⟨.inl rfl, trivial⟩⟩⟩⟩⟩⟩⟩⟩⟩⟩
              · refine ax_Wp.go (f' := (160, [some (.ref 36), some (.int p0), some (.int p1), some (.int p2), some (.int p3), some (.int s1.1), some (.int s1.2.1), some (.int s1.2.2.1), some (.int s1.2.2.2.1), some (.int s1.2.2.2.2)], [.int (nI 0)])) 1 rfl ?_
                obtain rfl := inj hD
                exact ax_Wp.dead kkv10 ⟨.inl rfl, ⟨.inl rfl, ⟨.inl rfl, ⟨.inl rfl, ⟨.inl rfl, ⟨.inr ⟨rfl, trivial⟩, ⟨.inl rfl, ⟨.inl rfl, ⟨.inl rfl, ⟨.inl rfl, trivial⟩⟩⟩⟩⟩⟩⟩⟩⟩⟩
            · refine ax_Wp.go (f' := (160, [some (.ref 36), some (.int p0), some (.int p1), some (.int p2), some (.int p3), some (.int s1.1), some (.int s1.2.1), some (.int s1.2.2.1), some (.int s1.2.2.2.1), some (.int s1.2.2.2.2)], [.int (nI 0)])) 1 rfl ?_
              obtain rfl := inj hD
              exact ax_Wp.dead kkv10 ⟨.inl rfl, ⟨.inl rfl, ⟨.inl rfl, ⟨.inl rfl, ⟨.inl rfl, ⟨.inr ⟨rfl, trivial⟩, ⟨.inl rfl, ⟨.inl rfl, ⟨.inl rfl, ⟨.inl rfl, trivial⟩⟩⟩⟩⟩⟩⟩⟩⟩⟩
          · refine ax_Wp.go (f' := (160, [some (.ref 36), some (.int p0), some (.int p1), some (.int p2), some (.int p3), some (.int s1.1), some (.int s1.2.1), some (.int s1.2.2.1), some (.int s1.2.2.2.1), some (.int s1.2.2.2.2)], [.int (nI 1)])) 2 rfl ?_
            obtain rfl := inj hD
            exact ax_Wp.dead kkv10 ⟨.inl rfl, ⟨.inl rfl, ⟨.inl rfl, ⟨.inl rfl, ⟨.inl rfl, ⟨.inr ⟨rfl, trivial⟩, ⟨.inl rfl, ⟨.inl rfl, ⟨.inl rfl, ⟨.inl rfl, trivial⟩⟩⟩⟩⟩⟩⟩⟩⟩⟩
      · refine ax_Wp.go (f' := (42, [some (.ref 36), some (.int p0), some (.int p1), some (.int p2), some (.int p3), some (.int s1.1), some (.int s1.2.1), some (.int s1.2.2.1), some (.int s1.2.2.2.1), some (.int s1.2.2.2.2)], [.int s1.2.2.2.1])) 1 rfl ?_
        refine bnd hD (fun v13 hx hD => ?_)
        refine ax_Wp.jn (F := (61, [some (.ref 36), some (.int p0), some (.int p1), some (.int p2), some (.int p3), some (.int s1.1), some (.int s1.2.1), some (.int s1.2.2.1), none, some (.int s1.2.2.2.2)], [.int v13])) (hh := stt m) ?_ (fun kkv13 => ?_)
        · refine ax_Wp.go (f' := (162, [some (.ref 36), some (.int p0), some (.int p1), some (.int p2), some (.int p3), some (.int s1.1), some (.int s1.2.1), some (.int s1.2.2.1), some (.int v13), some (.int s1.2.2.2.2)], [])) 2 rfl ?_
          obtain rfl := inj hD
          exact kkv3
        clear hD
        have hD := hx
        clear hx
        refine ax_Wp.brD hD rfl (fun _ hD => ?_) (fun _ hD => ?_)
        · refine ax_Wp.go (f' := (51, [some (.ref 36), some (.int p0), some (.int p1), some (.int p2), some (.int p3), some (.int s1.1), some (.int s1.2.1), some (.int s1.2.2.1), some (.int s1.2.2.2.1), some (.int s1.2.2.2.2)], [.int s1.2.2.2.2, .ref 37])) 3 rfl ?_
          refine ax_Wp.rdI hD rfl rfl rfl (fun x14 hD => ?_)
          refine ax_Wp.go (f' := (53, [some (.ref 36), some (.int p0), some (.int p1), some (.int p2), some (.int p3), some (.int s1.1), some (.int s1.2.1), some (.int s1.2.2.1), some (.int s1.2.2.2.1), some (.int s1.2.2.2.2)], [.int p2, .int x14])) 1 rfl ?_
          refine ax_Wp.brD hD rfl (fun _ hD => ?_) (fun _ hD => ?_)
          · refine ax_Wp.go (f' := (61, [some (.ref 36), some (.int p0), some (.int p1), some (.int p2), some (.int p3), some (.int s1.1), some (.int s1.2.1), some (.int s1.2.2.1), some (.int s1.2.2.2.1), some (.int s1.2.2.2.2)], [.int (nI 1)])) 2 rfl ?_
            obtain rfl := inj hD
            exact ax_Wp.dead kkv13 ⟨.inl rfl, ⟨.inl rfl, ⟨.inl rfl, ⟨.inl rfl, ⟨.inl rfl, ⟨.inl rfl, ⟨.inl rfl, ⟨.inl rfl, ⟨.inr ⟨rfl, trivial⟩, ⟨.inl rfl, trivial⟩⟩⟩⟩⟩⟩⟩⟩⟩⟩
          · refine ax_Wp.go (f' := (61, [some (.ref 36), some (.int p0), some (.int p1), some (.int p2), some (.int p3), some (.int s1.1), some (.int s1.2.1), some (.int s1.2.2.1), some (.int s1.2.2.2.1), some (.int s1.2.2.2.2)], [.int (nI 0)])) 1 rfl ?_
            obtain rfl := inj hD
            exact ax_Wp.dead kkv13 ⟨.inl rfl, ⟨.inl rfl, ⟨.inl rfl, ⟨.inl rfl, ⟨.inl rfl, ⟨.inl rfl, ⟨.inl rfl, ⟨.inl rfl, ⟨.inr ⟨rfl, trivial⟩, ⟨.inl rfl, trivial⟩⟩⟩⟩⟩⟩⟩⟩⟩⟩
        · refine ax_Wp.go (f' := (61, [some (.ref 36), some (.int p0), some (.int p1), some (.int p2), some (.int p3), some (.int s1.1), some (.int s1.2.1), some (.int s1.2.2.1), some (.int s1.2.2.2.1), some (.int s1.2.2.2.2)], [.int (nI 1)])) 2 rfl ?_
          obtain rfl := inj hD
          exact ax_Wp.dead kkv13 ⟨.inl rfl, ⟨.inl rfl, ⟨.inl rfl, ⟨.inl rfl, ⟨.inl rfl, ⟨.inl rfl, ⟨.inl rfl, ⟨.inl rfl, ⟨.inr ⟨rfl, trivial⟩, ⟨.inl rfl, trivial⟩⟩⟩⟩⟩⟩⟩⟩⟩⟩
def D8 (m : dM) : Option (Int32 × dM) := Option.bind (lp (β := dM) 3000 (fun (s1 : Int32 × dM) => if (nI 4) ≤ s1.1 then some (.inr s1.2) else (gI s1.2 40 4 s1.1).bind fun (x3 : Int32) => Option.bind ((if x3 = (nI 0) then (gI s1.2 37 4 s1.1).bind fun (x5 : Int32) => (gI s1.2 38 4 s1.1).bind fun (x6 : Int32) => (gI s1.2 39 4 s1.1).bind fun (x7 : Int32) => (D9 s1.2 s1.1 x5 x6 x7).bind fun (x8 : Int32) => some x8 else (gI s1.2 40 4 s1.1).bind fun (x9 : Int32) => some x9) : Option (Int32)) fun (v4 : Int32) => (sI s1.2 41 4 s1.1 v4).bind fun (m10 : dM) => some (.inl (s1.1 + (nI 1), m10))) (nI 0, m)) fun (v2 : dM) => Option.bind (lp (β := Int32 × dM) 3000 (fun (s11 : Int32 × Int32 × dM) => if (nI 4) ≤ s11.2.1 then some (.inr (s11.1, s11.2.2)) else Option.bind ((if s11.1 = (nI 0) then (gI s11.2.2 41 4 s11.2.1).bind fun (x14 : Int32) => (gI s11.2.2 40 4 s11.2.1).bind fun (x15 : Int32) => if x14 = x15 then some (nI 0) else some (nI 1) else some (nI 1)) : Option (Int32)) fun (v13 : Int32) => (gI s11.2.2 41 4 s11.2.1).bind fun (x16 : Int32) => (sI s11.2.2 40 4 s11.2.1 x16).bind fun (m17 : dM) => some (.inl (v13, s11.2.1 + (nI 1), m17))) (nI 0, nI 0, v2)) fun (v12 : Int32 × dM) => (gB v12.1).bind fun (b18 : Int32) => some (b18, v12.2)
set_option maxRecDepth 20000 in
theorem w_8 {X : Nat × (Nat → Int32)} {d : Nat} {m : dM} {r : Int32 × dM} (hD : D8 m = some r) : ax_Ev X (d + 2) 8 [.ref 36] (stt m) (.inl (some (.int r.1))) (stt r.2) := by
  unfold D8 at hD
  show ax_Wp X (d + 1 + 1) 8 (0, [some (.ref 36), none, none], []) (stt m) _
  refine ax_Wp.go (f' := (4, [some (.ref 36), some (.int (nI 0)), some (.int (nI 0))], [])) 4 rfl ?_
  refine bnd hD (fun v2 hx hD => ?_)
  refine ax_Wp.jn (F := (62, [some (.ref 36), some (.int (nI 0)), none], [])) (hh := stt v2) ?_ (fun kkv2 => ?_)
  · refine ax_Wp.go (f' := (64, [some (.ref 36), some (.int (nI 0)), some (.int (nI 0))], [])) 2 rfl ?_
    refine bnd hD (fun v12 hx hD => ?_)
    refine ax_Wp.jn (F := (112, [some (.ref 36), some (.int v12.1), none], [])) (hh := stt v12.2) ?_ (fun kkv12 => ?_)
    · refine ax_Wp.go (f' := (113, [some (.ref 36), some (.int v12.1), none], [.int v12.1])) 1 rfl ?_
      refine ax_Wp.retB hD rfl (fun b18 hD => ?_)
      obtain rfl := inj hD
      exact ⟨rfl, rfl⟩
    clear hD
    refine ax_Wp.lpD (fun (s11 : Int32 × Int32 × dM) => ((64, [some (.ref 36), some (.int s11.1), some (.int s11.2.1)], []), stt s11.2.2)) ?_ hx
    clear hx
    intro s11 v hD ks11
    refine ax_Wp.go (f' := (66, [some (.ref 36), some (.int s11.1), some (.int s11.2.1)], [.int (nI 4), .int s11.2.1])) 2 rfl ?_
    refine ax_Wp.brD hD rfl (fun _ hD => ?_) (fun _ hD => ?_)
    · obtain rfl := inj hD
      obtain rfl := ks11.o
      exact ax_Wp.dead kkv12 ⟨.inl rfl, ⟨.inl rfl, ⟨.inr ⟨rfl, trivial⟩, trivial⟩⟩⟩
    · refine ax_Wp.go (f' := (70, [some (.ref 36), some (.int s11.1), some (.int s11.2.1)], [.int s11.1])) 1 rfl ?_
      refine bnd hD (fun v13 hx hD => ?_)
      refine ax_Wp.jn (F := (93, [some (.ref 36), none, some (.int s11.2.1)], [.int v13])) (hh := stt s11.2.2) ?_ (fun kkv13 => ?_)
      · refine ax_Wp.go (f' := (104, [some (.ref 36), some (.int v13), some (.int s11.2.1)], [.int s11.2.1, .ref 41, .int s11.2.1, .ref 40])) 7 rfl ?_
        refine ax_Wp.rdI hD rfl rfl rfl (fun x16 hD => ?_)
        refine ax_Wp.wrI hD rfl rfl (fun _ => rfl) (fun m17 hD => ?_)
        refine ax_Wp.go (f' := (64, [some (.ref 36), some (.int v13), some (.int (s11.2.1 + (nI 1)))], [])) 2 rfl ?_
        obtain rfl := inj hD
        exact ks11.i
      clear hD
      have hD := hx
      clear hx
      refine ax_Wp.brD hD rfl (fun _ hD => ?_) (fun _ hD => ?_)
      · refine ax_Wp.go (f' := (78, [some (.ref 36), some (.int s11.1), some (.int s11.2.1)], [.int s11.2.1, .ref 41])) 3 rfl ?_
        refine ax_Wp.rdI hD rfl rfl rfl (fun x14 hD => ?_)
        refine ax_Wp.go (f' := (84, [some (.ref 36), some (.int s11.1), some (.int s11.2.1)], [.int s11.2.1, .ref 40, .int x14])) 3 rfl ?_
        refine ax_Wp.rdI hD rfl rfl rfl (fun x15 hD => ?_)
        refine ax_Wp.brD hD rfl (fun _ hD => ?_) (fun _ hD => ?_)
        · refine ax_Wp.go (f' := (93, [some (.ref 36), some (.int s11.1), some (.int s11.2.1)], [.int (nI 0)])) 1 rfl ?_
          obtain rfl := inj hD
          exact ax_Wp.dead kkv13 ⟨.inl rfl, ⟨.inr ⟨rfl, trivial⟩, ⟨.inl rfl, trivial⟩⟩⟩
        · refine ax_Wp.go (f' := (93, [some (.ref 36), some (.int s11.1), some (.int s11.2.1)], [.int (nI 1)])) 2 rfl ?_
          obtain rfl := inj hD
          exact ax_Wp.dead kkv13 ⟨.inl rfl, ⟨.inr ⟨rfl, trivial⟩, ⟨.inl rfl, trivial⟩⟩⟩
      · refine ax_Wp.go (f' := (93, [some (.ref 36), some (.int s11.1), some (.int s11.2.1)], [.int (nI 1)])) 2 rfl ?_
        obtain rfl := inj hD
        exact ax_Wp.dead kkv13 ⟨.inl rfl, ⟨.inr ⟨rfl, trivial⟩, ⟨.inl rfl, trivial⟩⟩⟩
  clear hD
  refine ax_Wp.lpD (fun (s1 : Int32 × dM) => ((4, [some (.ref 36), some (.int (nI 0)), some (.int s1.1)], []), stt s1.2)) ?_ hx
  clear hx
  intro s1 v hD ks1
  refine ax_Wp.go (f' := (6, [some (.ref 36), some (.int (nI 0)), some (.int s1.1)], [.int (nI 4), .int s1.1])) 2 rfl ?_
  refine ax_Wp.brD hD rfl (fun _ hD => ?_) (fun _ hD => ?_)
  · obtain rfl := inj hD
    obtain rfl := ks1.o
    exact ax_Wp.dead kkv2 ⟨.inl rfl, ⟨.inl rfl, ⟨.inr ⟨rfl, trivial⟩, trivial⟩⟩⟩
  · refine ax_Wp.go (f' := (19, [some (.ref 36), some (.int (nI 0)), some (.int s1.1)], [.int s1.1, .ref 40, .int s1.1, .ref 41])) 6 rfl ?_
    refine ax_Wp.rdI hD rfl rfl rfl (fun x3 hD => ?_)
    refine bnd hD (fun v4 hx hD => ?_)
    refine ax_Wp.jn (F := (55, [some (.ref 36), some (.int (nI 0)), some (.int s1.1)], [.int v4, .int s1.1, .ref 41])) (hh := stt s1.2) ?_ (fun kkv4 => ?_)
    · refine ax_Wp.wrI hD rfl rfl (fun _ => rfl) (fun m10 hD => ?_)
      refine ax_Wp.go (f' := (4, [some (.ref 36), some (.int (nI 0)), some (.int (s1.1 + (nI 1)))], [])) 2 rfl ?_
      obtain rfl := inj hD
      exact ks1.i
    clear hD
    have hD := hx
    clear hx
    refine ax_Wp.brD hD rfl (fun _ hD => ?_) (fun _ hD => ?_)
    · refine ax_Wp.go (f' := (30, [some (.ref 36), some (.int (nI 0)), some (.int s1.1)], [.int s1.1, .ref 37, .int s1.1, .ref 36, .int s1.1, .ref 41])) 5 rfl ?_
      refine ax_Wp.rdI hD rfl rfl rfl (fun x5 hD => ?_)
      refine ax_Wp.go (f' := (36, [some (.ref 36), some (.int (nI 0)), some (.int s1.1)], [.int s1.1, .ref 38, .int x5, .int s1.1, .ref 36, .int s1.1, .ref 41])) 3 rfl ?_
      refine ax_Wp.rdI hD rfl rfl rfl (fun x6 hD => ?_)
      refine ax_Wp.go (f' := (42, [some (.ref 36), some (.int (nI 0)), some (.int s1.1)], [.int s1.1, .ref 39, .int x6, .int x5, .int s1.1, .ref 36, .int s1.1, .ref 41])) 3 rfl ?_
      refine ax_Wp.rdI hD rfl rfl rfl (fun x7 hD => ?_)
      refine bnd hD (fun x8 hx hD => ?_)
      refine ax_Wp.callE (f' := (46, [some (.ref 36), some (.int (nI 0)), some (.int s1.1)], [.int s1.1, .ref 41])) rfl rfl (w_9 (d := d + 0) hx) rfl ?_
      refine ax_Wp.go (f' := (55, [some (.ref 36), some (.int (nI 0)), some (.int s1.1)], [.int x8, .int s1.1, .ref 41])) 1 rfl ?_
      obtain rfl := inj hD
      exact kkv4
    · refine ax_Wp.go (f' := (54, [some (.ref 36), some (.int (nI 0)), some (.int s1.1)], [.int s1.1, .ref 40, .int s1.1, .ref 41])) 3 rfl ?_
      refine ax_Wp.rdI hD rfl rfl rfl (fun x9 hD => ?_)
      obtain rfl := inj hD
      exact kkv4
def D59 (m : dM) (p0 : Int32) : Option (Int32) := Option.bind ((if p0 < (nI 0) then some (nI 0) else if (rI m 2 4) ≤ p0 then some (nI 0) else if (nI 24) ≤ p0 then some (nI 0) else some (nI 1)) : Option (Int32)) fun (v1 : Int32) => (gB v1).bind fun (b2 : Int32) => some b2
set_option maxRecDepth 20000 in
theorem w_59 {X : Nat × (Nat → Int32)} {d : Nat} {m : dM} {p0 : Int32} {r : Int32} (hD : D59 m p0 = some r) : ax_Ev X (d + 1) 47 [.ref 2, .int p0] (stt m) (.inl (some (.int r))) (stt m) := by
  unfold D59 at hD
  show ax_Wp X (d + 0 + 1) 47 (0, [some (.ref 2), some (.int p0)], []) (stt m) _
  refine ax_Wp.go (f' := (1, [some (.ref 2), some (.int p0)], [.int p0])) 1 rfl ?_
  refine bnd hD (fun v1 hx hD => ?_)
  refine ax_Wp.jn (F := (23, [some (.ref 2), none], [.int v1])) (hh := stt m) ?_ (fun kkv1 => ?_)
  · refine ax_Wp.retB hD rfl (fun b2 hD => ?_)
    obtain rfl := inj hD
    exact ⟨rfl, rfl⟩
  clear hD
  have hD := hx
  clear hx
  refine ax_Wp.brD hD rfl (fun _ hD => ?_) (fun _ hD => ?_)
  · refine ax_Wp.go (f' := (23, [some (.ref 2), some (.int p0)], [.int (nI 0)])) 1 rfl ?_
    obtain rfl := inj hD
    exact ax_Wp.dead kkv1 ⟨.inl rfl, ⟨.inr ⟨rfl, trivial⟩, trivial⟩⟩
  · refine ax_Wp.go (f' := (9, [some (.ref 2), some (.int p0)], [.int (rI m 2 4), .int p0])) 3 rfl ?_
    refine ax_Wp.brD hD rfl (fun _ hD => ?_) (fun _ hD => ?_)
    · refine ax_Wp.go (f' := (23, [some (.ref 2), some (.int p0)], [.int (nI 0)])) 1 rfl ?_
      obtain rfl := inj hD
      exact ax_Wp.dead kkv1 ⟨.inl rfl, ⟨.inr ⟨rfl, trivial⟩, trivial⟩⟩
    · refine ax_Wp.go (f' := (15, [some (.ref 2), some (.int p0)], [.int (nI 24), .int p0])) 2 rfl ?_
      refine ax_Wp.brD hD rfl (fun _ hD => ?_) (fun _ hD => ?_)
      · refine ax_Wp.go (f' := (23, [some (.ref 2), some (.int p0)], [.int (nI 0)])) 1 rfl ?_
        obtain rfl := inj hD
        exact ax_Wp.dead kkv1 ⟨.inl rfl, ⟨.inr ⟨rfl, trivial⟩, trivial⟩⟩
      · refine ax_Wp.go (f' := (23, [some (.ref 2), some (.int p0)], [.int (nI 1)])) 2 rfl ?_
        obtain rfl := inj hD
        exact ax_Wp.dead kkv1 ⟨.inl rfl, ⟨.inr ⟨rfl, trivial⟩, trivial⟩⟩
def D34 (m : dM) (p0 : Int32) : Option (Int32) := Option.bind (lp (β := Int32) 3000 (fun (s1 : Int32 × Int32) => if (rI m 10 4) ≤ s1.2 then some (.inr s1.1) else (gI m 14 8 s1.2).bind fun (x3 : Int32) => Option.bind ((if x3 = ((nI 10) + p0) then (gI m 12 8 s1.2).bind fun (x5 : Int32) => some (s1.1 + x5) else some s1.1) : Option (Int32)) fun (v4 : Int32) => some (.inl (v4, s1.2 + (nI 1)))) (nI 0, nI 0)) fun (v2 : Int32) => some v2
set_option maxRecDepth 20000 in
theorem w_34 {X : Nat × (Nat → Int32)} {d : Nat} {m : dM} {p0 : Int32} {r : Int32} (hD : D34 m p0 = some r) : ax_Ev X (d + 1) 24 [.ref 10, .int p0] (stt m) (.inl (some (.int r))) (stt m) := by
  unfold D34 at hD
  show ax_Wp X (d + 0 + 1) 24 (0, [some (.ref 10), some (.int p0), none, none], []) (stt m) _
  refine ax_Wp.go (f' := (4, [some (.ref 10), some (.int p0), some (.int (nI 0)), some (.int (nI 0))], [])) 4 rfl ?_
  refine bnd hD (fun v2 hx hD => ?_)
  refine ax_Wp.jn (F := (40, [some (.ref 10), none, some (.int v2), none], [])) (hh := stt m) ?_ (fun kkv2 => ?_)
  · refine ax_Wp.go (f' := (41, [some (.ref 10), none, some (.int v2), none], [.int v2])) 1 rfl ?_
    obtain rfl := inj hD
    exact ax_Wp.ret rfl ⟨rfl, rfl⟩
  clear hD
  refine ax_Wp.lpD (fun (s1 : Int32 × Int32) => ((4, [some (.ref 10), some (.int p0), some (.int s1.1), some (.int s1.2)], []), stt m)) ?_ hx
  clear hx
  intro s1 v hD ks1
  refine ax_Wp.go (f' := (9, [some (.ref 10), some (.int p0), some (.int s1.1), some (.int s1.2)], [.int (rI m 10 4), .int s1.2])) 3 rfl ?_
  refine ax_Wp.brD hD rfl (fun _ hD => ?_) (fun _ hD => ?_)
  · obtain rfl := inj hD
    obtain rfl := ks1.o
    exact ax_Wp.dead kkv2 ⟨.inl rfl, ⟨.inr ⟨rfl, trivial⟩, ⟨.inl rfl, ⟨.inr ⟨rfl, trivial⟩, trivial⟩⟩⟩⟩
  · refine ax_Wp.go (f' := (17, [some (.ref 10), some (.int p0), some (.int s1.1), some (.int s1.2)], [.int s1.2, .ref 14])) 3 rfl ?_
    refine ax_Wp.rdI hD rfl rfl rfl (fun x3 hD => ?_)
    refine ax_Wp.go (f' := (22, [some (.ref 10), some (.int p0), some (.int s1.1), some (.int s1.2)], [.int ((nI 10) + p0), .int x3])) 3 rfl ?_
    refine bnd hD (fun v4 hx hD => ?_)
    refine ax_Wp.jn (F := (34, [some (.ref 10), some (.int p0), some (.int v4), some (.int s1.2)], [])) (hh := stt m) ?_ (fun kkv4 => ?_)
    · refine ax_Wp.go (f' := (4, [some (.ref 10), some (.int p0), some (.int v4), some (.int (s1.2 + (nI 1)))], [])) 2 rfl ?_
      obtain rfl := inj hD
      exact ks1.i
    clear hD
    have hD := hx
    clear hx
    refine ax_Wp.brD hD rfl (fun _ hD => ?_) (fun _ hD => ?_)
    · refine ax_Wp.go (f' := (31, [some (.ref 10), some (.int p0), some (.int s1.1), some (.int s1.2)], [.int s1.2, .ref 12, .int s1.1])) 4 rfl ?_
      refine ax_Wp.rdI hD rfl rfl rfl (fun x5 hD => ?_)
      refine ax_Wp.go (f' := (34, [some (.ref 10), some (.int p0), some (.int (s1.1 + x5)), some (.int s1.2)], [])) 2 rfl ?_
      obtain rfl := inj hD
      exact kkv4
    · obtain rfl := inj hD
      exact kkv4
def D7 (m : dM) : Option (dM) := Option.bind (lp (β := dM) 3000 (fun (s1 : Int32 × dM) => if (nI 4) ≤ s1.1 then some (.inr s1.2) else (gI s1.2 7 4 s1.1).bind fun (x3 : Int32) => (D59 s1.2 x3).bind fun (x4 : Int32) => (gI s1.2 6 4 s1.1).bind fun (x5 : Int32) => (sI s1.2 37 4 s1.1 x5).bind fun (m6 : dM) => Option.bind ((if x4 = (nI 0) then some (-1) else (gI m6 4 24 x3).bind fun (x8 : Int32) => some x8) : Option (Int32)) fun (v7 : Int32) => (sI m6 38 4 s1.1 v7).bind fun (m9 : dM) => (D34 m9 s1.1).bind fun (x10 : Int32) => (sI m9 39 4 s1.1 x10).bind fun (m11 : dM) => Option.bind ((if x4 = (nI 0) then some (nI 1) else some (nI 0)) : Option (Int32)) fun (v12 : Int32) => (sI m11 40 4 s1.1 v12).bind fun (m13 : dM) => some (.inl (s1.1 + (nI 1), m13))) (nI 0, m)) fun (v2 : dM) => lp (β := dM) 3000 (fun (s14 : Int32 × dM) => if (nI 4) < s14.1 then some (.inr s14.2) else (D8 s14.2).bind fun (r15 : Int32 × dM) => if r15.1 = (nI 0) then some (.inr r15.2) else some (.inl (s14.1 + (nI 1), r15.2))) (nI 0, v2)
set_option maxRecDepth 20000 in
theorem w_7 {X : Nat × (Nat → Int32)} {d : Nat} {m : dM} {r : dM} (hD : D7 m = some r) : ax_Ev X (d + 3) 7 [.ref 36, .ref 1] (stt m) (.inl none) (stt r) := by
  unfold D7 at hD
  show ax_Wp X (d + 2 + 1) 7 (0, [some (.ref 36), some (.ref 1), none, none, none], []) (stt m) _
  refine ax_Wp.go (f' := (2, [some (.ref 36), some (.ref 1), some (.int (nI 0)), none, none], [])) 2 rfl ?_
  refine bnd hD (fun v2 hx hD => ?_)
  refine ax_Wp.jn (F := (102, [some (.ref 36), some (.ref 1), none, none, none], [])) (hh := stt v2) ?_ (fun kkv2 => ?_)
  · refine ax_Wp.go (f' := (104, [some (.ref 36), some (.ref 1), some (.int (nI 0)), none, none], [])) 2 rfl ?_
    refine ax_Wp.lpD (fun (s14 : Int32 × dM) => ((104, [some (.ref 36), some (.ref 1), some (.int s14.1), none, none], []), stt s14.2)) ?_ hD
    clear hD
    intro s14 v hD ks14
    refine ax_Wp.go (f' := (106, [some (.ref 36), some (.ref 1), some (.int s14.1), none, none], [.int (nI 4), .int s14.1])) 2 rfl ?_
    refine ax_Wp.brD hD rfl (fun _ hD => ?_) (fun _ hD => ?_)
    · obtain rfl := inj hD
      obtain rfl := ks14.o
      exact ax_Wp.ret rfl ⟨rfl, rfl⟩
    · refine ax_Wp.go (f' := (110, [some (.ref 36), some (.ref 1), some (.int s14.1), none, none], [.ref 36])) 1 rfl ?_
      refine bnd hD (fun r15 hx hD => ?_)
      refine ax_Wp.callE (f' := (113, [some (.ref 36), some (.ref 1), some (.int s14.1), none, none], [])) rfl rfl (w_8 (d := d + 0) hx) rfl ?_
      refine ax_Wp.brD hD rfl (fun _ hD => ?_) (fun _ hD => ?_)
      · obtain rfl := inj hD
        obtain rfl := ks14.o
        exact ax_Wp.ret rfl ⟨rfl, rfl⟩
      · refine ax_Wp.go (f' := (104, [some (.ref 36), some (.ref 1), some (.int (s14.1 + (nI 1))), none, none], [])) 2 rfl ?_
        obtain rfl := inj hD
        exact ks14.i
  clear hD
  refine ax_Wp.lpD (fun (s1 : Int32 × dM) => ((2, [some (.ref 36), some (.ref 1), some (.int s1.1), none, none], []), stt s1.2)) ?_ hx
  clear hx
  intro s1 v hD ks1
  refine ax_Wp.go (f' := (4, [some (.ref 36), some (.ref 1), some (.int s1.1), none, none], [.int (nI 4), .int s1.1])) 2 rfl ?_
  refine ax_Wp.brD hD rfl (fun _ hD => ?_) (fun _ hD => ?_)
  · obtain rfl := inj hD
    obtain rfl := ks1.o
    exact ax_Wp.dead kkv2 ⟨.inl rfl, ⟨.inl rfl, ⟨.inr ⟨rfl, trivial⟩, ⟨.inl rfl, ⟨.inl rfl, trivial⟩⟩⟩⟩⟩
  · refine ax_Wp.go (f' := (15, [some (.ref 36), some (.ref 1), some (.int s1.1), none, none], [.int s1.1, .ref 7])) 4 rfl ?_
    refine ax_Wp.rdI hD rfl rfl rfl (fun x3 hD => ?_)
    refine ax_Wp.go (f' := (22, [some (.ref 36), some (.ref 1), some (.int s1.1), some (.int x3), none], [.int x3, .ref 2])) 4 rfl ?_
    refine bnd hD (fun x4 hx hD => ?_)
    refine ax_Wp.callE (f' := (25, [some (.ref 36), some (.ref 1), some (.int s1.1), some (.int x3), none], [])) rfl rfl (w_59 (d := d + 1) hx) rfl ?_
    refine ax_Wp.go (f' := (40, [some (.ref 36), some (.ref 1), some (.int s1.1), some (.int x3), some (.int x4)], [.int s1.1, .ref 6, .int s1.1, .ref 37])) 8 rfl ?_
    refine ax_Wp.rdI hD rfl rfl rfl (fun x5 hD => ?_)
    refine ax_Wp.wrI hD rfl rfl (fun _ => rfl) (fun m6 hD => ?_)
    refine ax_Wp.go (f' := (49, [some (.ref 36), some (.ref 1), some (.int s1.1), some (.int x3), some (.int x4)], [.int x4, .int s1.1, .ref 38])) 4 rfl ?_
    refine bnd hD (fun v7 hx hD => ?_)
    refine ax_Wp.jn (F := (65, [some (.ref 36), some (.ref 1), some (.int s1.1), none, some (.int x4)], [.int v7, .int s1.1, .ref 38])) (hh := stt m6) ?_ (fun kkv7 => ?_)
    · refine ax_Wp.wrI hD rfl rfl (fun _ => rfl) (fun m9 hD => ?_)
      refine ax_Wp.go (f' := (76, [some (.ref 36), some (.ref 1), some (.int s1.1), none, some (.int x4)], [.int s1.1, .ref 10, .int s1.1, .ref 39])) 6 rfl ?_
      refine bnd hD (fun x10 hx hD => ?_)
      refine ax_Wp.callE (f' := (79, [some (.ref 36), some (.ref 1), some (.int s1.1), none, some (.int x4)], [.int s1.1, .ref 39])) rfl rfl (w_34 (d := d + 1) hx) rfl ?_
      refine ax_Wp.wrI hD rfl rfl (fun _ => rfl) (fun m11 hD => ?_)
      refine ax_Wp.go (f' := (87, [some (.ref 36), some (.ref 1), some (.int s1.1), none, some (.int x4)], [.int x4, .int s1.1, .ref 40])) 4 rfl ?_
      refine bnd hD (fun v12 hx hD => ?_)
      refine ax_Wp.jn (F := (95, [some (.ref 36), some (.ref 1), some (.int s1.1), none, none], [.int v12, .int s1.1, .ref 40])) (hh := stt m11) ?_ (fun kkv12 => ?_)
      · refine ax_Wp.wrI hD rfl rfl (fun _ => rfl) (fun m13 hD => ?_)
        refine ax_Wp.go (f' := (2, [some (.ref 36), some (.ref 1), some (.int (s1.1 + (nI 1))), none, none], [])) 2 rfl ?_
        obtain rfl := inj hD
        exact ks1.i
      clear hD
      have hD := hx
      clear hx
      refine ax_Wp.brD hD rfl (fun _ hD => ?_) (fun _ hD => ?_)
      · refine ax_Wp.go (f' := (95, [some (.ref 36), some (.ref 1), some (.int s1.1), none, some (.int x4)], [.int (nI 1), .int s1.1, .ref 40])) 1 rfl ?_
        obtain rfl := inj hD
        exact ax_Wp.dead kkv12 ⟨.inl rfl, ⟨.inl rfl, ⟨.inl rfl, ⟨.inl rfl, ⟨.inr ⟨rfl, trivial⟩, trivial⟩⟩⟩⟩⟩
      · refine ax_Wp.go (f' := (95, [some (.ref 36), some (.ref 1), some (.int s1.1), none, some (.int x4)], [.int (nI 0), .int s1.1, .ref 40])) 2 rfl ?_
        obtain rfl := inj hD
        exact ax_Wp.dead kkv12 ⟨.inl rfl, ⟨.inl rfl, ⟨.inl rfl, ⟨.inl rfl, ⟨.inr ⟨rfl, trivial⟩, trivial⟩⟩⟩⟩⟩
    clear hD
    have hD := hx
    clear hx
    refine ax_Wp.brD hD rfl (fun _ hD => ?_) (fun _ hD => ?_)
    · refine ax_Wp.go (f' := (65, [some (.ref 36), some (.ref 1), some (.int s1.1), some (.int x3), some (.int x4)], [.int (-1), .int s1.1, .ref 38])) 1 rfl ?_
      obtain rfl := inj hD
      exact ax_Wp.dead kkv7 ⟨.inl rfl, ⟨.inl rfl, ⟨.inl rfl, ⟨.inr ⟨rfl, trivial⟩, ⟨.inl rfl, trivial⟩⟩⟩⟩⟩
    · refine ax_Wp.go (f' := (60, [some (.ref 36), some (.ref 1), some (.int s1.1), some (.int x3), some (.int x4)], [.int x3, .ref 4, .int s1.1, .ref 38])) 4 rfl ?_
      refine ax_Wp.rdI hD rfl rfl rfl (fun x8 hD => ?_)
      refine ax_Wp.go (f' := (65, [some (.ref 36), some (.ref 1), some (.int s1.1), some (.int x3), some (.int x4)], [.int x8, .int s1.1, .ref 38])) 1 rfl ?_
      obtain rfl := inj hD
      exact ax_Wp.dead kkv7 ⟨.inl rfl, ⟨.inl rfl, ⟨.inl rfl, ⟨.inr ⟨rfl, trivial⟩, ⟨.inl rfl, trivial⟩⟩⟩⟩⟩
def D23 (m : dM) (p0 : Int64) : Option (dM) := Option.bind ((if (nI 61) ≤ (rI m 15 1) then some m else (sL m 16 61 (rI m 15 1) p0).bind fun (m2 : dM) => (fI m2 15 1 ((rI m2 15 1) + (nI 1))).bind fun (m3 : dM) => some m3) : Option (dM)) fun (v1 : dM) => some v1
set_option maxRecDepth 20000 in
theorem w_23 {X : Nat × (Nat → Int32)} {d : Nat} {m : dM} {p0 : Int64} {r : dM} (hD : D23 m p0 = some r) : ax_Ev X (d + 1) 13 [.ref 15, .long p0] (stt m) (.inl none) (stt r) := by
  unfold D23 at hD
  show ax_Wp X (d + 0 + 1) 13 (0, [some (.ref 15), some (.long p0), none], []) (stt m) _
  refine ax_Wp.go (f' := (9, [some (.ref 15), some (.long p0), none], [.int (nI 61), .int (rI m 15 1)])) 5 rfl ?_
  refine bnd hD (fun v1 hx hD => ?_)
  refine ax_Wp.jn (F := (32, [some (.ref 15), none, none], [])) (hh := stt v1) ?_ (fun kkv1 => ?_)
  · obtain rfl := inj hD
    exact ax_Wp.ret rfl ⟨rfl, rfl⟩
  clear hD
  have hD := hx
  clear hx
  refine ax_Wp.brD hD rfl (fun _ hD => ?_) (fun _ hD => ?_)
  · obtain rfl := inj hD
    exact ax_Wp.dead kkv1 ⟨.inl rfl, ⟨.inr ⟨rfl, trivial⟩, ⟨.inl rfl, trivial⟩⟩⟩
  · refine ax_Wp.go (f' := (21, [some (.ref 15), some (.long p0), none], [.long p0, .int (rI m 15 1), .ref 16])) 5 rfl ?_
    refine ax_Wp.wrL hD rfl rfl (fun _ => rfl) (fun m2 hD => ?_)
    refine ax_Wp.go (f' := (29, [some (.ref 15), some (.long p0), none], [.int ((rI m2 15 1) + (nI 1)), .ref 15])) 5 rfl ?_
    refine ax_Wp.ptI hD rfl rfl rfl (fun m3 hD => ?_)
    obtain rfl := inj hD
    exact ax_Wp.dead kkv1 ⟨.inl rfl, ⟨.inr ⟨rfl, trivial⟩, ⟨.inl rfl, trivial⟩⟩⟩
def D130 (p0 : Int32) : Option (Int32) := Option.bind ((if (nI 2) ≤ p0 then some (nI 1) else some (nI 0)) : Option (Int32)) fun (v1 : Int32) => some v1
set_option maxRecDepth 20000 in
theorem w_130 {X : Nat × (Nat → Int32)} {d : Nat} {m : dM} {p0 : Int32} {r : Int32} (hD : D130 p0 = some r) : ax_Ev X (d + 1) 107 [.int p0] (stt m) (.inl (some (.int r))) (stt m) := by
  unfold D130 at hD
  show ax_Wp X (d + 0 + 1) 107 (0, [some (.int p0)], []) (stt m) _
  refine ax_Wp.go (f' := (2, [some (.int p0)], [.int (nI 2), .int p0])) 2 rfl ?_
  refine bnd hD (fun v1 hx hD => ?_)
  refine ax_Wp.jn (F := (10, [none], [.int v1])) (hh := stt m) ?_ (fun kkv1 => ?_)
  · obtain rfl := inj hD
    exact ax_Wp.ret rfl ⟨rfl, rfl⟩
  clear hD
  have hD := hx
  clear hx
  refine ax_Wp.brD hD rfl (fun _ hD => ?_) (fun _ hD => ?_)
  · refine ax_Wp.go (f' := (10, [some (.int p0)], [.int (nI 1)])) 1 rfl ?_
    obtain rfl := inj hD
    exact ax_Wp.dead kkv1 ⟨.inr ⟨rfl, trivial⟩, trivial⟩
  · refine ax_Wp.go (f' := (10, [some (.int p0)], [.int (nI 0)])) 2 rfl ?_
    obtain rfl := inj hD
    exact ax_Wp.dead kkv1 ⟨.inr ⟨rfl, trivial⟩, trivial⟩
def D37 (m : dM) (p0 : Int32) (p1 : Int32) : Option (Int32 × dM) := Option.bind (lp (β := Int32 × dM) 3000 (fun (s1 : Int32 × Int32 × dM) => if (rI s1.2.2 10 4) ≤ s1.2.1 then some (.inr (s1.1, s1.2.2)) else (gI s1.2.2 14 8 s1.2.1).bind fun (x3 : Int32) => Option.bind ((if x3 = ((nI 10) + p0) then (gI s1.2.2 11 8 s1.2.1).bind fun (x5 : Int32) => if x5 = p1 then (sI s1.2.2 14 8 s1.2.1 ((nI 14) + p0)).bind fun (m6 : dM) => (gI m6 13 8 s1.2.1).bind fun (x7 : Int32) => some (s1.1 + x7, m6) else some (s1.1, s1.2.2) else some (s1.1, s1.2.2)) : Option (Int32 × dM)) fun (v4 : Int32 × dM) => some (.inl (v4.1, s1.2.1 + (nI 1), v4.2))) (nI 0, nI 0, m)) fun (v2 : Int32 × dM) => some (v2.1, v2.2)
set_option maxRecDepth 20000 in
theorem w_37 {X : Nat × (Nat → Int32)} {d : Nat} {m : dM} {p0 : Int32} {p1 : Int32} {r : Int32 × dM} (hD : D37 m p0 p1 = some r) : ax_Ev X (d + 1) 27 [.ref 10, .int p0, .int p1] (stt m) (.inl (some (.int r.1))) (stt r.2) := by
  unfold D37 at hD
  show ax_Wp X (d + 0 + 1) 27 (0, [some (.ref 10), some (.int p0), some (.int p1), none, none], []) (stt m) _
  refine ax_Wp.go (f' := (5, [some (.ref 10), some (.int p0), some (.int p1), some (.int (nI 0)), some (.int (nI 0))], [])) 4 rfl ?_
  refine bnd hD (fun v2 hx hD => ?_)
  refine ax_Wp.jn (F := (66, [some (.ref 10), none, none, some (.int v2.1), none], [])) (hh := stt v2.2) ?_ (fun kkv2 => ?_)
  · refine ax_Wp.go (f' := (67, [some (.ref 10), none, none, some (.int v2.1), none], [.int v2.1])) 1 rfl ?_
    obtain rfl := inj hD
    exact ax_Wp.ret rfl ⟨rfl, rfl⟩
  clear hD
  refine ax_Wp.lpD (fun (s1 : Int32 × Int32 × dM) => ((5, [some (.ref 10), some (.int p0), some (.int p1), some (.int s1.1), some (.int s1.2.1)], []), stt s1.2.2)) ?_ hx
  clear hx
  intro s1 v hD ks1
  refine ax_Wp.go (f' := (11, [some (.ref 10), some (.int p0), some (.int p1), some (.int s1.1), some (.int s1.2.1)], [.int (rI s1.2.2 10 4), .int s1.2.1])) 3 rfl ?_
  refine ax_Wp.brD hD rfl (fun _ hD => ?_) (fun _ hD => ?_)
  · obtain rfl := inj hD
    obtain rfl := ks1.o
    exact ax_Wp.dead kkv2 ⟨.inl rfl, ⟨.inr ⟨rfl, trivial⟩, ⟨.inr ⟨rfl, trivial⟩, ⟨.inl rfl, ⟨.inr ⟨rfl, trivial⟩, trivial⟩⟩⟩⟩⟩
  · refine ax_Wp.go (f' := (20, [some (.ref 10), some (.int p0), some (.int p1), some (.int s1.1), some (.int s1.2.1)], [.int s1.2.1, .ref 14])) 3 rfl ?_
    refine ax_Wp.rdI hD rfl rfl rfl (fun x3 hD => ?_)
    refine ax_Wp.go (f' := (25, [some (.ref 10), some (.int p0), some (.int p1), some (.int s1.1), some (.int s1.2.1)], [.int ((nI 10) + p0), .int x3])) 3 rfl ?_
    refine bnd hD (fun v4 hx hD => ?_)
    refine ax_Wp.jn (F := (60, [some (.ref 10), some (.int p0), some (.int p1), some (.int v4.1), some (.int s1.2.1)], [])) (hh := stt v4.2) ?_ (fun kkv4 => ?_)
    · refine ax_Wp.go (f' := (5, [some (.ref 10), some (.int p0), some (.int p1), some (.int v4.1), some (.int (s1.2.1 + (nI 1)))], [])) 2 rfl ?_
      obtain rfl := inj hD
      exact ks1.i
    clear hD
    have hD := hx
    clear hx
    refine ax_Wp.brD hD rfl (fun _ hD => ?_) (fun _ hD => ?_)
    · refine ax_Wp.go (f' := (34, [some (.ref 10), some (.int p0), some (.int p1), some (.int s1.1), some (.int s1.2.1)], [.int s1.2.1, .ref 11])) 3 rfl ?_
      refine ax_Wp.rdI hD rfl rfl rfl (fun x5 hD => ?_)
      refine ax_Wp.go (f' := (36, [some (.ref 10), some (.int p0), some (.int p1), some (.int s1.1), some (.int s1.2.1)], [.int p1, .int x5])) 1 rfl ?_
      refine ax_Wp.brD hD rfl (fun _ hD => ?_) (fun _ hD => ?_)
      · refine ax_Wp.go (f' := (49, [some (.ref 10), some (.int p0), some (.int p1), some (.int s1.1), some (.int s1.2.1)], [.int ((nI 14) + p0), .int s1.2.1, .ref 14])) 6 rfl ?_
        refine ax_Wp.wrI hD rfl rfl (fun _ => rfl) (fun m6 hD => ?_)
        refine ax_Wp.go (f' := (57, [some (.ref 10), some (.int p0), some (.int p1), some (.int s1.1), some (.int s1.2.1)], [.int s1.2.1, .ref 13, .int s1.1])) 4 rfl ?_
        refine ax_Wp.rdI hD rfl rfl rfl (fun x7 hD => ?_)
        refine ax_Wp.go (f' := (60, [some (.ref 10), some (.int p0), some (.int p1), some (.int (s1.1 + x7)), some (.int s1.2.1)], [])) 2 rfl ?_
        obtain rfl := inj hD
        exact kkv4
      · obtain rfl := inj hD
        exact kkv4
    · obtain rfl := inj hD
      exact kkv4
def D3 (m : dM) (p0 : Int32) : Option (Int32) := Option.bind ((if (((rI m 5 4) >>> (p0 &&& nI 31)) &&& (nI 1)) = (nI 1) then some (nI 1) else some (nI 0)) : Option (Int32)) fun (v1 : Int32) => (gB v1).bind fun (b2 : Int32) => some b2
set_option maxRecDepth 20000 in
theorem w_3 {X : Nat × (Nat → Int32)} {d : Nat} {m : dM} {p0 : Int32} {r : Int32} (hD : D3 m p0 = some r) : ax_Ev X (d + 1) 3 [.ref 5, .int p0] (stt m) (.inl (some (.int r))) (stt m) := by
  unfold D3 at hD
  show ax_Wp X (d + 0 + 1) 3 (0, [some (.ref 5), some (.int p0)], []) (stt m) _
  refine ax_Wp.go (f' := (9, [some (.ref 5), some (.int p0)], [.int (nI 1), .int (((rI m 5 4) >>> (p0 &&& nI 31)) &&& (nI 1))])) 7 rfl ?_
  refine bnd hD (fun v1 hx hD => ?_)
  refine ax_Wp.jn (F := (17, [some (.ref 5), none], [.int v1])) (hh := stt m) ?_ (fun kkv1 => ?_)
  · refine ax_Wp.retB hD rfl (fun b2 hD => ?_)
    obtain rfl := inj hD
    exact ⟨rfl, rfl⟩
  clear hD
  have hD := hx
  clear hx
  refine ax_Wp.brD hD rfl (fun _ hD => ?_) (fun _ hD => ?_)
  · refine ax_Wp.go (f' := (17, [some (.ref 5), some (.int p0)], [.int (nI 1)])) 2 rfl ?_
    obtain rfl := inj hD
    exact ax_Wp.dead kkv1 ⟨.inl rfl, ⟨.inr ⟨rfl, trivial⟩, trivial⟩⟩
  · refine ax_Wp.go (f' := (17, [some (.ref 5), some (.int p0)], [.int (nI 0)])) 1 rfl ?_
    obtain rfl := inj hD
    exact ax_Wp.dead kkv1 ⟨.inl rfl, ⟨.inr ⟨rfl, trivial⟩, trivial⟩⟩
def D129 (p0 : Int32) (p1 : Int32) : Option (Int32) := Option.bind ((if p1 = (nI 0) then some p0 else some ((nI 2) * p0)) : Option (Int32)) fun (v1 : Int32) => some v1
set_option maxRecDepth 20000 in
theorem w_129 {X : Nat × (Nat → Int32)} {d : Nat} {m : dM} {p0 : Int32} {p1 : Int32} {r : Int32} (hD : D129 p0 p1 = some r) : ax_Ev X (d + 1) 106 [.int p0, .int p1] (stt m) (.inl (some (.int r))) (stt m) := by
  unfold D129 at hD
  show ax_Wp X (d + 0 + 1) 106 (0, [some (.int p0), some (.int p1)], []) (stt m) _
  refine ax_Wp.go (f' := (1, [some (.int p0), some (.int p1)], [.int p1])) 1 rfl ?_
  refine bnd hD (fun v1 hx hD => ?_)
  refine ax_Wp.jn (F := (11, [none, none], [.int v1])) (hh := stt m) ?_ (fun kkv1 => ?_)
  · obtain rfl := inj hD
    exact ax_Wp.ret rfl ⟨rfl, rfl⟩
  clear hD
  have hD := hx
  clear hx
  refine ax_Wp.brD hD rfl (fun _ hD => ?_) (fun _ hD => ?_)
  · refine ax_Wp.go (f' := (11, [some (.int p0), some (.int p1)], [.int p0])) 1 rfl ?_
    obtain rfl := inj hD
    exact ax_Wp.dead kkv1 ⟨.inr ⟨rfl, trivial⟩, ⟨.inr ⟨rfl, trivial⟩, trivial⟩⟩
  · refine ax_Wp.go (f' := (11, [some (.int p0), some (.int p1)], [.int ((nI 2) * p0)])) 4 rfl ?_
    obtain rfl := inj hD
    exact ax_Wp.dead kkv1 ⟨.inr ⟨rfl, trivial⟩, ⟨.inr ⟨rfl, trivial⟩, trivial⟩⟩
def D45 (m : dM) (p0 : Int32) : Option (Int32) := (D3 m p0).bind fun (x1 : Int32) => (D129 (rI m 1 5) x1).bind fun (x2 : Int32) => some x2
set_option maxRecDepth 20000 in
theorem w_45 {X : Nat × (Nat → Int32)} {d : Nat} {m : dM} {p0 : Int32} {r : Int32} (hD : D45 m p0 = some r) : ax_Ev X (d + 2) 35 [.ref 1, .int p0] (stt m) (.inl (some (.int r))) (stt m) := by
  unfold D45 at hD
  show ax_Wp X (d + 1 + 1) 35 (0, [some (.ref 1), some (.int p0)], []) (stt m) _
  refine ax_Wp.go (f' := (9, [some (.ref 1), some (.int p0)], [.int p0, .ref 5, .int (rI m 1 5)])) 5 rfl ?_
  refine bnd hD (fun x1 hx hD => ?_)
  refine ax_Wp.callE (f' := (12, [some (.ref 1), some (.int p0)], [.int (rI m 1 5)])) rfl rfl (w_3 (d := d + 0) hx) rfl ?_
  refine bnd hD (fun x2 hx hD => ?_)
  refine ax_Wp.callE (f' := (15, [some (.ref 1), some (.int p0)], [])) rfl rfl (w_129 (d := d + 0) hx) rfl ?_
  obtain rfl := inj hD
  exact ax_Wp.ret rfl ⟨rfl, rfl⟩
def D39 (m : dM) (p0 : Int32) (p1 : Int32) : Option (Int32) := Option.bind (lp (β := Int32) 3000 (fun (s1 : Int32 × Int32 × Int32 × Int32) => if (rI m 10 4) ≤ s1.2.2.2 then some (.inr s1.1) else (gI m 14 8 s1.2.2.2).bind fun (x3 : Int32) => Option.bind ((if x3 = p0 then if ((p1 >>> (s1.2.2.2 &&& nI 31)) &&& (nI 1)) = (nI 1) then some (nI 1) else some (nI 0) else some (nI 1)) : Option (Int32)) fun (v4 : Int32) => Option.bind ((if v4 = (nI 0) then (gI m 13 8 s1.2.2.2).bind fun (x6 : Int32) => if s1.2.1 < x6 then (gI m 13 8 s1.2.2.2).bind fun (x7 : Int32) => (gI m 12 8 s1.2.2.2).bind fun (x8 : Int32) => some (s1.2.2.2, x7, x8) else (gI m 13 8 s1.2.2.2).bind fun (x9 : Int32) => if x9 = s1.2.1 then (gI m 12 8 s1.2.2.2).bind fun (x10 : Int32) => if s1.2.2.1 ≤ x10 then some (s1.1, s1.2.1, s1.2.2.1) else (gI m 13 8 s1.2.2.2).bind fun (x11 : Int32) => (gI m 12 8 s1.2.2.2).bind fun (x12 : Int32) => some (s1.2.2.2, x11, x12) else some (s1.1, s1.2.1, s1.2.2.1) else some (s1.1, s1.2.1, s1.2.2.1)) : Option (Int32 × Int32 × Int32)) fun (v5 : Int32 × Int32 × Int32) => some (.inl (v5.1, v5.2.1, v5.2.2, s1.2.2.2 + (nI 1)))) ((-1), nI 0, nI 0, nI 0)) fun (v2 : Int32) => some v2
set_option maxRecDepth 20000 in
theorem w_39 {X : Nat × (Nat → Int32)} {d : Nat} {m : dM} {p0 : Int32} {p1 : Int32} {r : Int32} (hD : D39 m p0 p1 = some r) : ax_Ev X (d + 1) 29 [.ref 10, .int p0, .int p1] (stt m) (.inl (some (.int r))) (stt m) := by
  unfold D39 at hD
  show ax_Wp X (d + 0 + 1) 29 (0, [some (.ref 10), some (.int p0), some (.int p1), none, none, none, none, none], []) (stt m) _
  refine ax_Wp.go (f' := (11, [some (.ref 10), some (.int p0), some (.int p1), some (.int (-1)), some (.int (nI 0)), some (.int (nI 0)), some (.int (nI 0)), none], [])) 8 rfl ?_
  refine bnd hD (fun v2 hx hD => ?_)
  refine ax_Wp.jn (F := (116, [some (.ref 10), none, none, some (.int v2), none, none, none, none], [])) (hh := stt m) ?_ (fun kkv2 => ?_)
  · refine ax_Wp.go (f' := (117, [some (.ref 10), none, none, some (.int v2), none, none, none, none], [.int v2])) 1 rfl ?_
    obtain rfl := inj hD
    exact ax_Wp.ret rfl ⟨rfl, rfl⟩
  clear hD
  refine ax_Wp.lpD (fun (s1 : Int32 × Int32 × Int32 × Int32) => ((11, [some (.ref 10), some (.int p0), some (.int p1), some (.int s1.1), some (.int s1.2.1), some (.int s1.2.2.1), some (.int s1.2.2.2), none], []), stt m)) ?_ hx
  clear hx
  intro s1 v hD ks1
  refine ax_Wp.go (f' := (17, [some (.ref 10), some (.int p0), some (.int p1), some (.int s1.1), some (.int s1.2.1), some (.int s1.2.2.1), some (.int s1.2.2.2), none], [.int (rI m 10 4), .int s1.2.2.2])) 3 rfl ?_
  refine ax_Wp.brD hD rfl (fun _ hD => ?_) (fun _ hD => ?_)
  · obtain rfl := inj hD
    obtain rfl := ks1.o
    exact ax_Wp.dead kkv2 ⟨.inl rfl, ⟨.inr ⟨rfl, trivial⟩, ⟨.inr ⟨rfl, trivial⟩, ⟨.inl rfl, ⟨.inr ⟨rfl, trivial⟩, ⟨.inr ⟨rfl, trivial⟩, ⟨.inr ⟨rfl, trivial⟩, ⟨.inl rfl, trivial⟩⟩⟩⟩⟩⟩⟩⟩
  · refine ax_Wp.go (f' := (26, [some (.ref 10), some (.int p0), some (.int p1), some (.int s1.1), some (.int s1.2.1), some (.int s1.2.2.1), some (.int s1.2.2.2), none], [.int s1.2.2.2, .ref 14])) 3 rfl ?_
    refine ax_Wp.rdI hD rfl rfl rfl (fun x3 hD => ?_)
    refine ax_Wp.go (f' := (28, [some (.ref 10), some (.int p0), some (.int p1), some (.int s1.1), some (.int s1.2.1), some (.int s1.2.2.1), some (.int s1.2.2.2), none], [.int p0, .int x3])) 1 rfl ?_
    refine bnd hD (fun v4 hx hD => ?_)
    refine ax_Wp.jn (F := (46, [some (.ref 10), some (.int p0), some (.int p1), some (.int s1.1), some (.int s1.2.1), some (.int s1.2.2.1), some (.int s1.2.2.2), none], [.int v4])) (hh := stt m) ?_ (fun kkv4 => ?_)
    · refine ax_Wp.go (f' := (50, [some (.ref 10), some (.int p0), some (.int p1), some (.int s1.1), some (.int s1.2.1), some (.int s1.2.2.1), some (.int s1.2.2.2), some (.int v4)], [.int v4])) 2 rfl ?_
      refine bnd hD (fun v5 hx hD => ?_)
      refine ax_Wp.jn (F := (110, [some (.ref 10), some (.int p0), some (.int p1), some (.int v5.1), some (.int v5.2.1), some (.int v5.2.2), some (.int s1.2.2.2), none], [])) (hh := stt m) ?_ (fun kkv5 => ?_)
      · refine ax_Wp.go (f' := (11, [some (.ref 10), some (.int p0), some (.int p1), some (.int v5.1), some (.int v5.2.1), some (.int v5.2.2), some (.int (s1.2.2.2 + (nI 1))), none], [])) 2 rfl ?_
        obtain rfl := inj hD
        exact ks1.i
      clear hD
      have hD := hx
      clear hx
      refine ax_Wp.brD hD rfl (fun _ hD => ?_) (fun _ hD => ?_)
      · refine ax_Wp.go (f' := (59, [some (.ref 10), some (.int p0), some (.int p1), some (.int s1.1), some (.int s1.2.1), some (.int s1.2.2.1), some (.int s1.2.2.2), some (.int v4)], [.int s1.2.2.2, .ref 13])) 3 rfl ?_
        refine ax_Wp.rdI hD rfl rfl rfl (fun x6 hD => ?_)
        refine ax_Wp.go (f' := (62, [some (.ref 10), some (.int p0), some (.int p1), some (.int s1.1), some (.int s1.2.1), some (.int s1.2.2.1), some (.int s1.2.2.2), some (.int v4)], [.int s1.2.1, .int x6])) 1 rfl ?_
        refine ax_Wp.brD hD rfl (fun _ hD => ?_) (fun _ hD => ?_)
        · refine ax_Wp.go (f' := (98, [some (.ref 10), some (.int p0), some (.int p1), some (.int s1.2.2.2), some (.int s1.2.1), some (.int s1.2.2.1), some (.int s1.2.2.2), some (.int v4)], [.int s1.2.2.2, .ref 13])) 5 rfl ?_
          refine ax_Wp.rdI hD rfl rfl rfl (fun x7 hD => ?_)
          refine ax_Wp.go (f' := (107, [some (.ref 10), some (.int p0), some (.int p1), some (.int s1.2.2.2), some (.int x7), some (.int s1.2.2.1), some (.int s1.2.2.2), some (.int v4)], [.int s1.2.2.2, .ref 12])) 4 rfl ?_
          refine ax_Wp.rdI hD rfl rfl rfl (fun x8 hD => ?_)
          refine ax_Wp.go (f' := (110, [some (.ref 10), some (.int p0), some (.int p1), some (.int s1.2.2.2), some (.int x7), some (.int x8), some (.int s1.2.2.2), some (.int v4)], [])) 1 rfl ?_
          obtain rfl := inj hD
          exact ax_Wp.dead kkv5 ⟨.inl rfl, ⟨.inl rfl, ⟨.inl rfl, ⟨.inl rfl, ⟨.inl rfl, ⟨.inl rfl, ⟨.inl rfl, ⟨.inr ⟨rfl, trivial⟩, trivial⟩⟩⟩⟩⟩⟩⟩⟩
        · refine ax_Wp.go (f' := (71, [some (.ref 10), some (.int p0), some (.int p1), some (.int s1.1), some (.int s1.2.1), some (.int s1.2.2.1), some (.int s1.2.2.2), some (.int v4)], [.int s1.2.2.2, .ref 13])) 3 rfl ?_
          refine ax_Wp.rdI hD rfl rfl rfl (fun x9 hD => ?_)
          refine ax_Wp.go (f' := (74, [some (.ref 10), some (.int p0), some (.int p1), some (.int s1.1), some (.int s1.2.1), some (.int s1.2.2.1), some (.int s1.2.2.2), some (.int v4)], [.int s1.2.1, .int x9])) 1 rfl ?_
          refine ax_Wp.brD hD rfl (fun _ hD => ?_) (fun _ hD => ?_)
          · refine ax_Wp.go (f' := (83, [some (.ref 10), some (.int p0), some (.int p1), some (.int s1.1), some (.int s1.2.1), some (.int s1.2.2.1), some (.int s1.2.2.2), some (.int v4)], [.int s1.2.2.2, .ref 12])) 3 rfl ?_
            refine ax_Wp.rdI hD rfl rfl rfl (fun x10 hD => ?_)
            refine ax_Wp.go (f' := (86, [some (.ref 10), some (.int p0), some (.int p1), some (.int s1.1), some (.int s1.2.1), some (.int s1.2.2.1), some (.int s1.2.2.2), some (.int v4)], [.int s1.2.2.1, .int x10])) 1 rfl ?_
            refine ax_Wp.brD hD rfl (fun _ hD => ?_) (fun _ hD => ?_)
            · obtain rfl := inj hD
              exact ax_Wp.dead kkv5 ⟨.inl rfl, ⟨.inl rfl, ⟨.inl rfl, ⟨.inl rfl, ⟨.inl rfl, ⟨.inl rfl, ⟨.inl rfl, ⟨.inr ⟨rfl, trivial⟩, trivial⟩⟩⟩⟩⟩⟩⟩⟩
            · refine ax_Wp.go (f' := (98, [some (.ref 10), some (.int p0), some (.int p1), some (.int s1.2.2.2), some (.int s1.2.1), some (.int s1.2.2.1), some (.int s1.2.2.2), some (.int v4)], [.int s1.2.2.2, .ref 13])) 5 rfl ?_
              refine ax_Wp.rdI hD rfl rfl rfl (fun x11 hD => ?_)
              refine ax_Wp.go (f' := (107, [some (.ref 10), some (.int p0), some (.int p1), some (.int s1.2.2.2), some (.int x11), some (.int s1.2.2.1), some (.int s1.2.2.2), some (.int v4)], [.int s1.2.2.2, .ref 12])) 4 rfl ?_
              refine ax_Wp.rdI hD rfl rfl rfl (fun x12 hD => ?_)
              refine ax_Wp.go (f' := (110, [some (.ref 10), some (.int p0), some (.int p1), some (.int s1.2.2.2), some (.int x11), some (.int x12), some (.int s1.2.2.2), some (.int v4)], [])) 1 rfl ?_
              obtain rfl := inj hD
              exact ax_Wp.dead kkv5 ⟨.inl rfl, ⟨.inl rfl, ⟨.inl rfl, ⟨.inl rfl, ⟨.inl rfl, ⟨.inl rfl, ⟨.inl rfl, ⟨.inr ⟨rfl, trivial⟩, trivial⟩⟩⟩⟩⟩⟩⟩⟩
          · obtain rfl := inj hD
            exact ax_Wp.dead kkv5 ⟨.inl rfl, ⟨.inl rfl, ⟨.inl rfl, ⟨.inl rfl, ⟨.inl rfl, ⟨.inl rfl, ⟨.inl rfl, ⟨.inr ⟨rfl, trivial⟩, trivial⟩⟩⟩⟩⟩⟩⟩⟩
      · obtain rfl := inj hD
        exact ax_Wp.dead kkv5 ⟨.inl rfl, ⟨.inl rfl, ⟨.inl rfl, ⟨.inl rfl, ⟨.inl rfl, ⟨.inl rfl, ⟨.inl rfl, ⟨.inr ⟨rfl, trivial⟩, trivial⟩⟩⟩⟩⟩⟩⟩⟩
    clear hD
    have hD := hx
    clear hx
    refine ax_Wp.brD hD rfl (fun _ hD => ?_) (fun _ hD => ?_)
    · refine ax_Wp.go (f' := (38, [some (.ref 10), some (.int p0), some (.int p1), some (.int s1.1), some (.int s1.2.1), some (.int s1.2.2.1), some (.int s1.2.2.2), none], [.int (nI 1), .int ((p1 >>> (s1.2.2.2 &&& nI 31)) &&& (nI 1))])) 6 rfl ?_
      refine ax_Wp.brD hD rfl (fun _ hD => ?_) (fun _ hD => ?_)
      · refine ax_Wp.go (f' := (46, [some (.ref 10), some (.int p0), some (.int p1), some (.int s1.1), some (.int s1.2.1), some (.int s1.2.2.1), some (.int s1.2.2.2), none], [.int (nI 1)])) 2 rfl ?_
        obtain rfl := inj hD
        exact kkv4
      · refine ax_Wp.go (f' := (46, [some (.ref 10), some (.int p0), some (.int p1), some (.int s1.1), some (.int s1.2.1), some (.int s1.2.2.1), some (.int s1.2.2.2), none], [.int (nI 0)])) 1 rfl ?_
        obtain rfl := inj hD
        exact kkv4
    · refine ax_Wp.go (f' := (46, [some (.ref 10), some (.int p0), some (.int p1), some (.int s1.1), some (.int s1.2.1), some (.int s1.2.2.1), some (.int s1.2.2.2), none], [.int (nI 1)])) 2 rfl ?_
      obtain rfl := inj hD
      exact kkv4
