/-! WHAT METHODS DO, printed of their bytecode: 11 -/
def D174 (m : dM) (p0 : Int32) (p1 : Int32) : Option (Int32) := (D152 m p0 (nI 3)).bind fun (x1 : Int32) => (D152 m p1 (nI 3)).bind fun (x2 : Int32) => Option.bind ((if (x1 - x2) = (nI 0) then (D152 m p1 (nI 2)).bind fun (x4 : Int32) => (D152 m p0 (nI 2)).bind fun (x5 : Int32) => some (x4 - x5) else some (x1 - x2)) : Option (Int32)) fun (v3 : Int32) => Option.bind ((if (nI 0) < v3 then some (nI 1) else if v3 = (nI 0) then if p1 ≤ p0 then some (nI 0) else some (nI 1) else some (nI 0)) : Option (Int32)) fun (v6 : Int32) => (gB v6).bind fun (b7 : Int32) => some b7
set_option maxRecDepth 20000 in
theorem w_174 {X : Nat × (Nat → Int32)} {d : Nat} {m : dM} {p0 : Int32} {p1 : Int32} {r : Int32} (hD : D174 m p0 p1 = some r) : ax_Ev X (d + 2) 174 [.ref 130, .int p0, .int p1] (stt m) (.inl (some (.int r))) (stt m) := by
  unfold D174 at hD
  show ax_Wp X (d + 1 + 1) 174 (0, [some (.ref 130), some (.int p0), some (.int p1), none], []) (stt m) _
  refine ax_Wp.go (f' := (3, [some (.ref 130), some (.int p0), some (.int p1), none], [.int (nI 3), .int p0, .ref 130])) 3 rfl ?_
  refine bnd hD (fun x1 hx hD => ?_)
  refine ax_Wp.callE (f' := (6, [some (.ref 130), some (.int p0), some (.int p1), none], [])) rfl rfl (w_152 (d := d + 0) hx) rfl ?_
  refine ax_Wp.go (f' := (9, [some (.ref 130), some (.int p0), some (.int p1), none], [.int (nI 3), .int p1, .ref 130, .int x1])) 3 rfl ?_
  refine bnd hD (fun x2 hx hD => ?_)
  refine ax_Wp.callE (f' := (12, [some (.ref 130), some (.int p0), some (.int p1), none], [.int x1])) rfl rfl (w_152 (d := d + 0) hx) rfl ?_
  refine ax_Wp.go (f' := (15, [some (.ref 130), some (.int p0), some (.int p1), some (.int (x1 - x2))], [.int (x1 - x2)])) 3 rfl ?_
  refine bnd hD (fun v3 hx hD => ?_)
  refine ax_Wp.jn (F := (35, [some (.ref 130), some (.int p0), some (.int p1), none], [.int v3])) (hh := stt m) ?_ (fun kkv3 => ?_)
  · refine ax_Wp.go (f' := (37, [some (.ref 130), some (.int p0), some (.int p1), some (.int v3)], [.int v3])) 2 rfl ?_
    refine bnd hD (fun v6 hx hD => ?_)
    refine ax_Wp.jn (F := (54, [some (.ref 130), none, none, none], [.int v6])) (hh := stt m) ?_ (fun kkv6 => ?_)
    · refine ax_Wp.retB hD rfl (fun b7 hD => ?_)
      obtain rfl := inj hD
      exact ⟨rfl, rfl⟩
    clear hD
    have hD := hx
    clear hx
    refine ax_Wp.brD hD rfl (fun _ hD => ?_) (fun _ hD => ?_)
    · refine ax_Wp.go (f' := (54, [some (.ref 130), some (.int p0), some (.int p1), some (.int v3)], [.int (nI 1)])) 2 rfl ?_
      obtain rfl := inj hD
      exact ax_Wp.dead kkv6 ⟨.inl rfl, ⟨.inr ⟨rfl, trivial⟩, ⟨.inr ⟨rfl, trivial⟩, ⟨.inr ⟨rfl, trivial⟩, trivial⟩⟩⟩⟩
    · refine ax_Wp.go (f' := (41, [some (.ref 130), some (.int p0), some (.int p1), some (.int v3)], [.int v3])) 1 rfl ?_
      refine ax_Wp.brD hD rfl (fun _ hD => ?_) (fun _ hD => ?_)
      · refine ax_Wp.go (f' := (46, [some (.ref 130), some (.int p0), some (.int p1), some (.int v3)], [.int p1, .int p0])) 2 rfl ?_
        refine ax_Wp.brD hD rfl (fun _ hD => ?_) (fun _ hD => ?_)
        · refine ax_Wp.go (f' := (54, [some (.ref 130), some (.int p0), some (.int p1), some (.int v3)], [.int (nI 0)])) 1 rfl ?_
          obtain rfl := inj hD
          exact ax_Wp.dead kkv6 ⟨.inl rfl, ⟨.inr ⟨rfl, trivial⟩, ⟨.inr ⟨rfl, trivial⟩, ⟨.inr ⟨rfl, trivial⟩, trivial⟩⟩⟩⟩
        · refine ax_Wp.go (f' := (54, [some (.ref 130), some (.int p0), some (.int p1), some (.int v3)], [.int (nI 1)])) 2 rfl ?_
          obtain rfl := inj hD
          exact ax_Wp.dead kkv6 ⟨.inl rfl, ⟨.inr ⟨rfl, trivial⟩, ⟨.inr ⟨rfl, trivial⟩, ⟨.inr ⟨rfl, trivial⟩, trivial⟩⟩⟩⟩
      · refine ax_Wp.go (f' := (54, [some (.ref 130), some (.int p0), some (.int p1), some (.int v3)], [.int (nI 0)])) 1 rfl ?_
        obtain rfl := inj hD
        exact ax_Wp.dead kkv6 ⟨.inl rfl, ⟨.inr ⟨rfl, trivial⟩, ⟨.inr ⟨rfl, trivial⟩, ⟨.inr ⟨rfl, trivial⟩, trivial⟩⟩⟩⟩
  clear hD
  have hD := hx
  clear hx
  refine ax_Wp.brD hD rfl (fun _ hD => ?_) (fun _ hD => ?_)
  · refine ax_Wp.go (f' := (21, [some (.ref 130), some (.int p0), some (.int p1), some (.int (x1 - x2))], [.int (nI 2), .int p1, .ref 130])) 3 rfl ?_
    refine bnd hD (fun x4 hx hD => ?_)
    refine ax_Wp.callE (f' := (24, [some (.ref 130), some (.int p0), some (.int p1), some (.int (x1 - x2))], [])) rfl rfl (w_152 (d := d + 0) hx) rfl ?_
    refine ax_Wp.go (f' := (27, [some (.ref 130), some (.int p0), some (.int p1), some (.int (x1 - x2))], [.int (nI 2), .int p0, .ref 130, .int x4])) 3 rfl ?_
    refine bnd hD (fun x5 hx hD => ?_)
    refine ax_Wp.callE (f' := (30, [some (.ref 130), some (.int p0), some (.int p1), some (.int (x1 - x2))], [.int x4])) rfl rfl (w_152 (d := d + 0) hx) rfl ?_
    refine ax_Wp.go (f' := (35, [some (.ref 130), some (.int p0), some (.int p1), some (.int (x1 - x2))], [.int (x4 - x5)])) 2 rfl ?_
    obtain rfl := inj hD
    exact ax_Wp.dead kkv3 ⟨.inl rfl, ⟨.inl rfl, ⟨.inl rfl, ⟨.inr ⟨rfl, trivial⟩, trivial⟩⟩⟩⟩
  · refine ax_Wp.go (f' := (35, [some (.ref 130), some (.int p0), some (.int p1), some (.int (x1 - x2))], [.int (x1 - x2)])) 1 rfl ?_
    obtain rfl := inj hD
    exact ax_Wp.dead kkv3 ⟨.inl rfl, ⟨.inl rfl, ⟨.inl rfl, ⟨.inr ⟨rfl, trivial⟩, trivial⟩⟩⟩⟩
def D173 (m : dM) (p0 : Int32) (p1 : Int32) : Option (Int32) := Option.bind (lp (β := Int32) 3000 (fun (s1 : Int32 × Int32) => if (rI m 131 117) ≤ s1.2 then some (.inr s1.1) else (D152 m s1.2 (nI 4)).bind fun (x3 : Int32) => Option.bind ((if x3 = (nI 0) then (D152 m s1.2 (nI 0)).bind fun (x5 : Int32) => if x5 = p0 then if p1 = (-1) then some (nI 1) else (D174 m p1 s1.2).bind fun (x6 : Int32) => if x6 = (nI 0) then some (nI 0) else some (nI 1) else some (nI 0) else some (nI 0)) : Option (Int32)) fun (v4 : Int32) => Option.bind ((if v4 = (nI 0) then some s1.1 else if s1.1 = (-1) then some s1.2 else (D174 m s1.2 s1.1).bind fun (x8 : Int32) => if x8 = (nI 0) then some s1.1 else some s1.2) : Option (Int32)) fun (v7 : Int32) => some (.inl (v7, s1.2 + (nI 1)))) ((-1), nI 0)) fun (v2 : Int32) => some v2
set_option maxRecDepth 20000 in
theorem w_173 {X : Nat × (Nat → Int32)} {d : Nat} {m : dM} {p0 : Int32} {p1 : Int32} {r : Int32} (hD : D173 m p0 p1 = some r) : ax_Ev X (d + 3) 173 [.ref 130, .int p0, .int p1] (stt m) (.inl (some (.int r))) (stt m) := by
  unfold D173 at hD
  show ax_Wp X (d + 2 + 1) 173 (0, [some (.ref 130), some (.int p0), some (.int p1), none, none, none], []) (stt m) _
  refine ax_Wp.go (f' := (5, [some (.ref 130), some (.int p0), some (.int p1), some (.int (-1)), some (.int (nI 0)), none], [])) 4 rfl ?_
  refine bnd hD (fun v2 hx hD => ?_)
  refine ax_Wp.jn (F := (93, [some (.ref 130), none, none, some (.int v2), none, none], [])) (hh := stt m) ?_ (fun kkv2 => ?_)
  · refine ax_Wp.go (f' := (94, [some (.ref 130), none, none, some (.int v2), none, none], [.int v2])) 1 rfl ?_
    obtain rfl := inj hD
    exact ax_Wp.ret rfl ⟨rfl, rfl⟩
  clear hD
  refine ax_Wp.lpD (fun (s1 : Int32 × Int32) => ((5, [some (.ref 130), some (.int p0), some (.int p1), some (.int s1.1), some (.int s1.2), none], []), stt m)) ?_ hx
  clear hx
  intro s1 v hD ks1
  refine ax_Wp.go (f' := (14, [some (.ref 130), some (.int p0), some (.int p1), some (.int s1.1), some (.int s1.2), none], [.int (rI m 131 117), .int s1.2])) 5 rfl ?_
  refine ax_Wp.brD hD rfl (fun _ hD => ?_) (fun _ hD => ?_)
  · obtain rfl := inj hD
    obtain rfl := ks1.o
    exact ax_Wp.dead kkv2 ⟨.inl rfl, ⟨.inr ⟨rfl, trivial⟩, ⟨.inr ⟨rfl, trivial⟩, ⟨.inl rfl, ⟨.inr ⟨rfl, trivial⟩, ⟨.inl rfl, trivial⟩⟩⟩⟩⟩⟩
  · refine ax_Wp.go (f' := (21, [some (.ref 130), some (.int p0), some (.int p1), some (.int s1.1), some (.int s1.2), none], [.int (nI 4), .int s1.2, .ref 130])) 3 rfl ?_
    refine bnd hD (fun x3 hx hD => ?_)
    refine ax_Wp.callE (f' := (24, [some (.ref 130), some (.int p0), some (.int p1), some (.int s1.1), some (.int s1.2), none], [])) rfl rfl (w_152 (d := d + 1) hx) rfl ?_
    refine bnd hD (fun v4 hx hD => ?_)
    refine ax_Wp.jn (F := (58, [some (.ref 130), some (.int p0), some (.int p1), some (.int s1.1), some (.int s1.2), none], [.int v4])) (hh := stt m) ?_ (fun kkv4 => ?_)
    · refine ax_Wp.go (f' := (62, [some (.ref 130), some (.int p0), some (.int p1), some (.int s1.1), some (.int s1.2), some (.int v4)], [.int v4])) 2 rfl ?_
      refine bnd hD (fun v7 hx hD => ?_)
      refine ax_Wp.jn (F := (86, [some (.ref 130), some (.int p0), some (.int p1), none, some (.int s1.2), none], [.int v7])) (hh := stt m) ?_ (fun kkv7 => ?_)
      · refine ax_Wp.go (f' := (5, [some (.ref 130), some (.int p0), some (.int p1), some (.int v7), some (.int (s1.2 + (nI 1))), none], [])) 3 rfl ?_
        obtain rfl := inj hD
        exact ks1.i
      clear hD
      have hD := hx
      clear hx
      refine ax_Wp.brD hD rfl (fun _ hD => ?_) (fun _ hD => ?_)
      · refine ax_Wp.go (f' := (86, [some (.ref 130), some (.int p0), some (.int p1), some (.int s1.1), some (.int s1.2), some (.int v4)], [.int s1.1])) 1 rfl ?_
        obtain rfl := inj hD
        exact ax_Wp.dead kkv7 ⟨.inl rfl, ⟨.inl rfl, ⟨.inl rfl, ⟨.inr ⟨rfl, trivial⟩, ⟨.inl rfl, ⟨.inr ⟨rfl, trivial⟩, trivial⟩⟩⟩⟩⟩⟩
      · refine ax_Wp.go (f' := (67, [some (.ref 130), some (.int p0), some (.int p1), some (.int s1.1), some (.int s1.2), some (.int v4)], [.int (-1), .int s1.1])) 2 rfl ?_
        refine ax_Wp.brD hD rfl (fun _ hD => ?_) (fun _ hD => ?_)
        · refine ax_Wp.go (f' := (86, [some (.ref 130), some (.int p0), some (.int p1), some (.int s1.1), some (.int s1.2), some (.int v4)], [.int s1.2])) 2 rfl ?_
          obtain rfl := inj hD
          exact ax_Wp.dead kkv7 ⟨.inl rfl, ⟨.inl rfl, ⟨.inl rfl, ⟨.inr ⟨rfl, trivial⟩, ⟨.inl rfl, ⟨.inr ⟨rfl, trivial⟩, trivial⟩⟩⟩⟩⟩⟩
        · refine ax_Wp.go (f' := (74, [some (.ref 130), some (.int p0), some (.int p1), some (.int s1.1), some (.int s1.2), some (.int v4)], [.int s1.1, .int s1.2, .ref 130])) 3 rfl ?_
          refine bnd hD (fun x8 hx hD => ?_)
          refine ax_Wp.callE (f' := (77, [some (.ref 130), some (.int p0), some (.int p1), some (.int s1.1), some (.int s1.2), some (.int v4)], [])) rfl rfl (w_174 (d := d + 0) hx) rfl ?_
          refine ax_Wp.brD hD rfl (fun _ hD => ?_) (fun _ hD => ?_)
          · refine ax_Wp.go (f' := (86, [some (.ref 130), some (.int p0), some (.int p1), some (.int s1.1), some (.int s1.2), some (.int v4)], [.int s1.1])) 1 rfl ?_
            obtain rfl := inj hD
            exact ax_Wp.dead kkv7 ⟨.inl rfl, ⟨.inl rfl, ⟨.inl rfl, ⟨.inr ⟨rfl, trivial⟩, ⟨.inl rfl, ⟨.inr ⟨rfl, trivial⟩, trivial⟩⟩⟩⟩⟩⟩
          · refine ax_Wp.go (f' := (86, [some (.ref 130), some (.int p0), some (.int p1), some (.int s1.1), some (.int s1.2), some (.int v4)], [.int s1.2])) 2 rfl ?_
            obtain rfl := inj hD
            exact ax_Wp.dead kkv7 ⟨.inl rfl, ⟨.inl rfl, ⟨.inl rfl, ⟨.inr ⟨rfl, trivial⟩, ⟨.inl rfl, ⟨.inr ⟨rfl, trivial⟩, trivial⟩⟩⟩⟩⟩⟩
    clear hD
    have hD := hx
    clear hx
    refine ax_Wp.brD hD rfl (fun _ hD => ?_) (fun _ hD => ?_)
    · refine ax_Wp.go (f' := (31, [some (.ref 130), some (.int p0), some (.int p1), some (.int s1.1), some (.int s1.2), none], [.int (nI 0), .int s1.2, .ref 130])) 3 rfl ?_
      refine bnd hD (fun x5 hx hD => ?_)
      refine ax_Wp.callE (f' := (34, [some (.ref 130), some (.int p0), some (.int p1), some (.int s1.1), some (.int s1.2), none], [])) rfl rfl (w_152 (d := d + 1) hx) rfl ?_
      refine ax_Wp.go (f' := (35, [some (.ref 130), some (.int p0), some (.int p1), some (.int s1.1), some (.int s1.2), none], [.int p0, .int x5])) 1 rfl ?_
      refine ax_Wp.brD hD rfl (fun _ hD => ?_) (fun _ hD => ?_)
      · refine ax_Wp.go (f' := (40, [some (.ref 130), some (.int p0), some (.int p1), some (.int s1.1), some (.int s1.2), none], [.int (-1), .int p1])) 2 rfl ?_
        refine ax_Wp.brD hD rfl (fun _ hD => ?_) (fun _ hD => ?_)
        · refine ax_Wp.go (f' := (58, [some (.ref 130), some (.int p0), some (.int p1), some (.int s1.1), some (.int s1.2), none], [.int (nI 1)])) 2 rfl ?_
          obtain rfl := inj hD
          exact kkv4
        · refine ax_Wp.go (f' := (47, [some (.ref 130), some (.int p0), some (.int p1), some (.int s1.1), some (.int s1.2), none], [.int s1.2, .int p1, .ref 130])) 3 rfl ?_
          refine bnd hD (fun x6 hx hD => ?_)
          refine ax_Wp.callE (f' := (50, [some (.ref 130), some (.int p0), some (.int p1), some (.int s1.1), some (.int s1.2), none], [])) rfl rfl (w_174 (d := d + 0) hx) rfl ?_
          refine ax_Wp.brD hD rfl (fun _ hD => ?_) (fun _ hD => ?_)
          · refine ax_Wp.go (f' := (58, [some (.ref 130), some (.int p0), some (.int p1), some (.int s1.1), some (.int s1.2), none], [.int (nI 0)])) 1 rfl ?_
            obtain rfl := inj hD
            exact kkv4
          · refine ax_Wp.go (f' := (58, [some (.ref 130), some (.int p0), some (.int p1), some (.int s1.1), some (.int s1.2), none], [.int (nI 1)])) 2 rfl ?_
            obtain rfl := inj hD
            exact kkv4
      · refine ax_Wp.go (f' := (58, [some (.ref 130), some (.int p0), some (.int p1), some (.int s1.1), some (.int s1.2), none], [.int (nI 0)])) 1 rfl ?_
        obtain rfl := inj hD
        exact kkv4
    · refine ax_Wp.go (f' := (58, [some (.ref 130), some (.int p0), some (.int p1), some (.int s1.1), some (.int s1.2), none], [.int (nI 0)])) 1 rfl ?_
      obtain rfl := inj hD
      exact kkv4
def D160 (m : dM) (p0 : Int32) : Option (Int32) := (D150 m p0 (nI 1)).bind fun (x1 : Int32) => (D159 p0 x1 (rI m 131 166)).bind fun (x2 : Int32) => some x2
set_option maxRecDepth 20000 in
theorem w_160 {X : Nat × (Nat → Int32)} {d : Nat} {m : dM} {p0 : Int32} {r : Int32} (hD : D160 m p0 = some r) : ax_Ev X (d + 2) 160 [.ref 130, .int p0] (stt m) (.inl (some (.int r))) (stt m) := by
  unfold D160 at hD
  show ax_Wp X (d + 1 + 1) 160 (0, [some (.ref 130), some (.int p0)], []) (stt m) _
  refine ax_Wp.go (f' := (5, [some (.ref 130), some (.int p0)], [.int (nI 1), .int p0, .ref 130, .int p0, .ref 130])) 5 rfl ?_
  refine bnd hD (fun x1 hx hD => ?_)
  refine ax_Wp.callE (f' := (8, [some (.ref 130), some (.int p0)], [.int p0, .ref 130])) rfl rfl (w_150 (d := d + 0) hx) rfl ?_
  refine ax_Wp.go (f' := (16, [some (.ref 130), some (.int p0)], [.int (rI m 131 166), .int x1, .int p0, .ref 130])) 4 rfl ?_
  refine bnd hD (fun x2 hx hD => ?_)
  refine ax_Wp.callE (f' := (19, [some (.ref 130), some (.int p0)], [])) rfl rfl (w_159 (d := d + 0) hx) rfl ?_
  obtain rfl := inj hD
  exact ax_Wp.ret rfl ⟨rfl, rfl⟩
def D175 (m : dM) (p0 : Int32) : Option (dM) := (D150 m p0 (nI 0)).bind fun (x1 : Int32) => Option.bind (lp (β := dM) 3000 (fun (s2 : Int32 × dM) => if (rI s2.2 131 117) ≤ s2.1 then some (.inr s2.2) else (D152 s2.2 s2.1 (nI 4)).bind fun (x4 : Int32) => Option.bind ((if x4 = (nI 1) then (D152 s2.2 s2.1 (nI 5)).bind fun (x6 : Int32) => if x6 = p0 then (D152 s2.2 s2.1 (nI 1)).bind fun (x7 : Int32) => if x7 = x1 then (D153 s2.2 s2.1 (nI 4) (nI 2)).bind fun (r8 : dM) => (gI r8 131 299 ((nI 170) + (p0 / (nI 2)))).bind fun (x9 : Int32) => (D152 r8 s2.1 (nI 3)).bind fun (x10 : Int32) => (sI r8 131 299 ((nI 170) + (p0 / (nI 2))) (x9 + x10)).bind fun (m11 : dM) => some m11 else some s2.2 else some s2.2 else some s2.2) : Option (dM)) fun (v5 : dM) => some (.inl (s2.1 + (nI 1), v5))) (nI 0, m)) fun (v3 : dM) => (D173 v3 x1 (-1)).bind fun (x12 : Int32) => Option.bind (lp (β := dM) 3000 (fun (s13 : Int32 × dM) => if s13.1 = (-1) then some (.inr s13.2) else (D173 s13.2 x1 s13.1).bind fun (x15 : Int32) => (D158 s13.2 p0).bind fun (x16 : Int32) => (D152 s13.2 s13.1 (nI 2)).bind fun (x17 : Int32) => (D160 s13.2 p0).bind fun (x18 : Int32) => Option.bind ((if x18 < (x16 + x17) then some s13.2 else (D153 s13.2 s13.1 (nI 4) (nI 1)).bind fun (r20 : dM) => (D153 r20 s13.1 (nI 5) p0).bind fun (r21 : dM) => some r21) : Option (dM)) fun (v19 : dM) => some (.inl (x15, v19))) (x12, v3)) fun (v14 : dM) => some v14
set_option maxRecDepth 20000 in
theorem w_175 {X : Nat × (Nat → Int32)} {d : Nat} {m : dM} {p0 : Int32} {r : dM} (hD : D175 m p0 = some r) : ax_Ev X (d + 4) 175 [.ref 130, .int p0] (stt m) (.inl none) (stt r) := by
  unfold D175 at hD
  show ax_Wp X (d + 3 + 1) 175 (0, [some (.ref 130), some (.int p0), none, none, none], []) (stt m) _
  refine ax_Wp.go (f' := (3, [some (.ref 130), some (.int p0), none, none, none], [.int (nI 0), .int p0, .ref 130])) 3 rfl ?_
  refine bnd hD (fun x1 hx hD => ?_)
  refine ax_Wp.callE (f' := (6, [some (.ref 130), some (.int p0), none, none, none], [])) rfl rfl (w_150 (d := d + 2) hx) rfl ?_
  refine ax_Wp.go (f' := (9, [some (.ref 130), some (.int p0), some (.int x1), some (.int (nI 0)), none], [])) 3 rfl ?_
  refine bnd hD (fun v3 hx hD => ?_)
  refine ax_Wp.jn (F := (84, [some (.ref 130), some (.int p0), some (.int x1), none, none], [])) (hh := stt v3) ?_ (fun kkv3 => ?_)
  · refine ax_Wp.go (f' := (87, [some (.ref 130), some (.int p0), some (.int x1), none, none], [.int (-1), .int x1, .ref 130])) 3 rfl ?_
    refine bnd hD (fun x12 hx hD => ?_)
    refine ax_Wp.callE (f' := (90, [some (.ref 130), some (.int p0), some (.int x1), none, none], [])) rfl rfl (w_173 (d := d + 0) hx) rfl ?_
    refine ax_Wp.go (f' := (91, [some (.ref 130), some (.int p0), some (.int x1), some (.int x12), none], [])) 1 rfl ?_
    refine bnd hD (fun v14 hx hD => ?_)
    refine ax_Wp.jn (F := (144, [some (.ref 130), none, none, none, none], [])) (hh := stt v14) ?_ (fun kkv14 => ?_)
    · obtain rfl := inj hD
      exact ax_Wp.ret rfl ⟨rfl, rfl⟩
    clear hD
    refine ax_Wp.lpD (fun (s13 : Int32 × dM) => ((91, [some (.ref 130), some (.int p0), some (.int x1), some (.int s13.1), none], []), stt s13.2)) ?_ hx
    clear hx
    intro s13 v hD ks13
    refine ax_Wp.go (f' := (93, [some (.ref 130), some (.int p0), some (.int x1), some (.int s13.1), none], [.int (-1), .int s13.1])) 2 rfl ?_
    refine ax_Wp.brD hD rfl (fun _ hD => ?_) (fun _ hD => ?_)
    · obtain rfl := inj hD
      obtain rfl := ks13.o
      exact ax_Wp.dead kkv14 ⟨.inl rfl, ⟨.inr ⟨rfl, trivial⟩, ⟨.inr ⟨rfl, trivial⟩, ⟨.inr ⟨rfl, trivial⟩, ⟨.inl rfl, trivial⟩⟩⟩⟩⟩
    · refine ax_Wp.go (f' := (99, [some (.ref 130), some (.int p0), some (.int x1), some (.int s13.1), none], [.int s13.1, .int x1, .ref 130])) 3 rfl ?_
      refine bnd hD (fun x15 hx hD => ?_)
      refine ax_Wp.callE (f' := (102, [some (.ref 130), some (.int p0), some (.int x1), some (.int s13.1), none], [])) rfl rfl (w_173 (d := d + 0) hx) rfl ?_
      refine ax_Wp.go (f' := (106, [some (.ref 130), some (.int p0), some (.int x1), some (.int s13.1), some (.int x15)], [.int p0, .ref 130])) 3 rfl ?_
      refine bnd hD (fun x16 hx hD => ?_)
      refine ax_Wp.callE (f' := (109, [some (.ref 130), some (.int p0), some (.int x1), some (.int s13.1), some (.int x15)], [])) rfl rfl (w_158 (d := d + 1) hx) rfl ?_
      refine ax_Wp.go (f' := (112, [some (.ref 130), some (.int p0), some (.int x1), some (.int s13.1), some (.int x15)], [.int (nI 2), .int s13.1, .ref 130, .int x16])) 3 rfl ?_
      refine bnd hD (fun x17 hx hD => ?_)
      refine ax_Wp.callE (f' := (115, [some (.ref 130), some (.int p0), some (.int x1), some (.int s13.1), some (.int x15)], [.int x16])) rfl rfl (w_152 (d := d + 2) hx) rfl ?_
      refine ax_Wp.go (f' := (118, [some (.ref 130), some (.int p0), some (.int x1), some (.int s13.1), some (.int x15)], [.int p0, .ref 130, .int (x16 + x17)])) 3 rfl ?_
      refine bnd hD (fun x18 hx hD => ?_)
      refine ax_Wp.callE (f' := (121, [some (.ref 130), some (.int p0), some (.int x1), some (.int s13.1), some (.int x15)], [.int (x16 + x17)])) rfl rfl (w_160 (d := d + 1) hx) rfl ?_
      refine bnd hD (fun v19 hx hD => ?_)
      refine ax_Wp.jn (F := (138, [some (.ref 130), some (.int p0), some (.int x1), none, some (.int x15)], [])) (hh := stt v19) ?_ (fun kkv19 => ?_)
      · refine ax_Wp.go (f' := (91, [some (.ref 130), some (.int p0), some (.int x1), some (.int x15), some (.int x15)], [])) 3 rfl ?_
        obtain rfl := inj hD
        exact ax_Wp.dead ks13.i ⟨.inl rfl, ⟨.inl rfl, ⟨.inl rfl, ⟨.inl rfl, ⟨.inr ⟨rfl, trivial⟩, trivial⟩⟩⟩⟩⟩
      clear hD
      have hD := hx
      clear hx
      refine ax_Wp.brD hD rfl (fun _ hD => ?_) (fun _ hD => ?_)
      · obtain rfl := inj hD
        exact ax_Wp.dead kkv19 ⟨.inl rfl, ⟨.inl rfl, ⟨.inl rfl, ⟨.inr ⟨rfl, trivial⟩, ⟨.inl rfl, trivial⟩⟩⟩⟩⟩
      · refine ax_Wp.go (f' := (128, [some (.ref 130), some (.int p0), some (.int x1), some (.int s13.1), some (.int x15)], [.int (nI 1), .int (nI 4), .int s13.1, .ref 130])) 4 rfl ?_
        refine bnd hD (fun r20 hx hD => ?_)
        refine ax_Wp.callE (f' := (131, [some (.ref 130), some (.int p0), some (.int x1), some (.int s13.1), some (.int x15)], [])) rfl rfl (w_153 (d := d + 2) hx) rfl ?_
        refine ax_Wp.go (f' := (135, [some (.ref 130), some (.int p0), some (.int x1), some (.int s13.1), some (.int x15)], [.int p0, .int (nI 5), .int s13.1, .ref 130])) 4 rfl ?_
        refine bnd hD (fun r21 hx hD => ?_)
        refine ax_Wp.callE (f' := (138, [some (.ref 130), some (.int p0), some (.int x1), some (.int s13.1), some (.int x15)], [])) rfl rfl (w_153 (d := d + 2) hx) rfl ?_
        obtain rfl := inj hD
        exact ax_Wp.dead kkv19 ⟨.inl rfl, ⟨.inl rfl, ⟨.inl rfl, ⟨.inr ⟨rfl, trivial⟩, ⟨.inl rfl, trivial⟩⟩⟩⟩⟩
  clear hD
  refine ax_Wp.lpD (fun (s2 : Int32 × dM) => ((9, [some (.ref 130), some (.int p0), some (.int x1), some (.int s2.1), none], []), stt s2.2)) ?_ hx
  clear hx
  intro s2 v hD ks2
  refine ax_Wp.go (f' := (17, [some (.ref 130), some (.int p0), some (.int x1), some (.int s2.1), none], [.int (rI s2.2 131 117), .int s2.1])) 5 rfl ?_
  refine ax_Wp.brD hD rfl (fun _ hD => ?_) (fun _ hD => ?_)
  · obtain rfl := inj hD
    obtain rfl := ks2.o
    exact ax_Wp.dead kkv3 ⟨.inl rfl, ⟨.inl rfl, ⟨.inl rfl, ⟨.inr ⟨rfl, trivial⟩, ⟨.inl rfl, trivial⟩⟩⟩⟩⟩
  · refine ax_Wp.go (f' := (23, [some (.ref 130), some (.int p0), some (.int x1), some (.int s2.1), none], [.int (nI 4), .int s2.1, .ref 130])) 3 rfl ?_
    refine bnd hD (fun x4 hx hD => ?_)
    refine ax_Wp.callE (f' := (26, [some (.ref 130), some (.int p0), some (.int x1), some (.int s2.1), none], [])) rfl rfl (w_152 (d := d + 2) hx) rfl ?_
    refine ax_Wp.go (f' := (27, [some (.ref 130), some (.int p0), some (.int x1), some (.int s2.1), none], [.int (nI 1), .int x4])) 1 rfl ?_
    refine bnd hD (fun v5 hx hD => ?_)
    refine ax_Wp.jn (F := (78, [some (.ref 130), some (.int p0), some (.int x1), some (.int s2.1), none], [])) (hh := stt v5) ?_ (fun kkv5 => ?_)
    · refine ax_Wp.go (f' := (9, [some (.ref 130), some (.int p0), some (.int x1), some (.int (s2.1 + (nI 1))), none], [])) 2 rfl ?_
      obtain rfl := inj hD
      exact ks2.i
    clear hD
    have hD := hx
    clear hx
    refine ax_Wp.brD hD rfl (fun _ hD => ?_) (fun _ hD => ?_)
    · refine ax_Wp.go (f' := (33, [some (.ref 130), some (.int p0), some (.int x1), some (.int s2.1), none], [.int (nI 5), .int s2.1, .ref 130])) 3 rfl ?_
      refine bnd hD (fun x6 hx hD => ?_)
      refine ax_Wp.callE (f' := (36, [some (.ref 130), some (.int p0), some (.int x1), some (.int s2.1), none], [])) rfl rfl (w_152 (d := d + 2) hx) rfl ?_
      refine ax_Wp.go (f' := (37, [some (.ref 130), some (.int p0), some (.int x1), some (.int s2.1), none], [.int p0, .int x6])) 1 rfl ?_
      refine ax_Wp.brD hD rfl (fun _ hD => ?_) (fun _ hD => ?_)
      · refine ax_Wp.go (f' := (43, [some (.ref 130), some (.int p0), some (.int x1), some (.int s2.1), none], [.int (nI 1), .int s2.1, .ref 130])) 3 rfl ?_
        refine bnd hD (fun x7 hx hD => ?_)
        refine ax_Wp.callE (f' := (46, [some (.ref 130), some (.int p0), some (.int x1), some (.int s2.1), none], [])) rfl rfl (w_152 (d := d + 2) hx) rfl ?_
        refine ax_Wp.go (f' := (47, [some (.ref 130), some (.int p0), some (.int x1), some (.int s2.1), none], [.int x1, .int x7])) 1 rfl ?_
        refine ax_Wp.brD hD rfl (fun _ hD => ?_) (fun _ hD => ?_)
        · refine ax_Wp.go (f' := (54, [some (.ref 130), some (.int p0), some (.int x1), some (.int s2.1), none], [.int (nI 2), .int (nI 4), .int s2.1, .ref 130])) 4 rfl ?_
          refine bnd hD (fun r8 hx hD => ?_)
          refine ax_Wp.callE (f' := (57, [some (.ref 130), some (.int p0), some (.int x1), some (.int s2.1), none], [])) rfl rfl (w_153 (d := d + 2) hx) rfl ?_
          refine ax_Wp.go (f' := (69, [some (.ref 130), some (.int p0), some (.int x1), some (.int s2.1), none], [.int ((nI 170) + (p0 / (nI 2))), .ref 131, .int ((nI 170) + (p0 / (nI 2))), .ref 131])) 8 rfl ?_
          refine ax_Wp.rdI hD rfl rfl rfl (fun x9 hD => ?_)
          refine ax_Wp.go (f' := (73, [some (.ref 130), some (.int p0), some (.int x1), some (.int s2.1), none], [.int (nI 3), .int s2.1, .ref 130, .int x9, .int ((nI 170) + (p0 / (nI 2))), .ref 131])) 3 rfl ?_
          refine bnd hD (fun x10 hx hD => ?_)
          refine ax_Wp.callE (f' := (76, [some (.ref 130), some (.int p0), some (.int x1), some (.int s2.1), none], [.int x9, .int ((nI 170) + (p0 / (nI 2))), .ref 131])) rfl rfl (w_152 (d := d + 2) hx) rfl ?_
          refine ax_Wp.go (f' := (77, [some (.ref 130), some (.int p0), some (.int x1), some (.int s2.1), none], [.int (x9 + x10), .int ((nI 170) + (p0 / (nI 2))), .ref 131])) 1 rfl ?_
          refine ax_Wp.wrI hD rfl rfl (fun _ => rfl) (fun m11 hD => ?_)
          obtain rfl := inj hD
          exact kkv5
        · obtain rfl := inj hD
          exact kkv5
      · obtain rfl := inj hD
        exact kkv5
    · obtain rfl := inj hD
      exact kkv5
def D176 (m : dM) : Option (Int32 × dM) := (D172 m).bind fun (r1 : dM) => Option.bind (lp (β := Int32 × dM) 3000 (fun (s2 : Int32 × Int32 × dM) => if (nI 4) ≤ s2.2.1 then some (.inr (s2.1, s2.2.2)) else (gI s2.2.2 135 4 s2.2.1).bind fun (x4 : Int32) => (D151 s2.2.2 s2.2.1 (nI 4) x4).bind fun (r5 : dM) => (gI r5 135 4 s2.2.1).bind fun (x6 : Int32) => Option.bind ((if x6 = (nI 0) then (D150 r5 s2.2.1 (nI 2)).bind fun (x8 : Int32) => (D155 r5 x8).bind fun (x9 : Int32) => (D151 r5 s2.2.1 (nI 0) x9).bind fun (r10 : dM) => (D150 r10 s2.2.1 (nI 3)).bind fun (x11 : Int32) => (D151 r10 s2.2.1 (nI 3) (x11 + (nI 1))).bind fun (r12 : dM) => some (s2.1 + (nI 1), r12) else some (s2.1, r5)) : Option (Int32 × dM)) fun (v7 : Int32 × dM) => (gI v7.2 135 4 s2.2.1).bind fun (x13 : Int32) => Option.bind ((if x13 ≤ (nI 1) then some (nI 0) else some (nI 1)) : Option (Int32)) fun (v14 : Int32) => (sI v7.2 131 299 (nI 169) ((rI v7.2 131 169) + v14)).bind fun (m15 : dM) => some (.inl (v7.1, s2.2.1 + (nI 1), m15))) (nI 0, nI 0, r1)) fun (v3 : Int32 × dM) => Option.bind (lp (β := dM) 3000 (fun (s16 : Int32 × dM) => if (nI 4) ≤ s16.1 then some (.inr s16.2) else (D175 s16.2 s16.1).bind fun (r18 : dM) => (D151 r18 s16.1 (nI 2) (-1)).bind fun (r19 : dM) => some (.inl (s16.1 + (nI 1), r19))) (nI 0, v3.2)) fun (v17 : dM) => (sI v17 131 299 (nI 168) ((rI v17 131 168) + (nI 1))).bind fun (m20 : dM) => (D164 m20).bind fun (r21 : dM) => some (v3.1, r21)
set_option maxRecDepth 20000 in
theorem w_176 {X : Nat × (Nat → Int32)} {d : Nat} {m : dM} {r : Int32 × dM} (hD : D176 m = some r) : ax_Ev X (d + 5) 176 [.ref 130] (stt m) (.inl (some (.int r.1))) (stt r.2) := by
  unfold D176 at hD
  show ax_Wp X (d + 4 + 1) 176 (0, [some (.ref 130), none, none], []) (stt m) _
  refine ax_Wp.go (f' := (1, [some (.ref 130), none, none], [.ref 130])) 1 rfl ?_
  refine bnd hD (fun r1 hx hD => ?_)
  refine ax_Wp.callE (f' := (4, [some (.ref 130), none, none], [])) rfl rfl (w_172 (d := d + 0) hx) rfl ?_
  refine ax_Wp.go (f' := (8, [some (.ref 130), some (.int (nI 0)), some (.int (nI 0))], [])) 4 rfl ?_
  refine bnd hD (fun v3 hx hD => ?_)
  refine ax_Wp.jn (F := (99, [some (.ref 130), some (.int v3.1), none], [])) (hh := stt v3.2) ?_ (fun kkv3 => ?_)
  · refine ax_Wp.go (f' := (101, [some (.ref 130), some (.int v3.1), some (.int (nI 0))], [])) 2 rfl ?_
    refine bnd hD (fun v17 hx hD => ?_)
    refine ax_Wp.jn (F := (124, [some (.ref 130), some (.int v3.1), none], [])) (hh := stt v17) ?_ (fun kkv17 => ?_)
    · refine ax_Wp.go (f' := (135, [some (.ref 130), some (.int v3.1), none], [.int ((rI v17 131 168) + (nI 1)), .int (nI 168), .ref 131])) 7 rfl ?_
      refine ax_Wp.wrI hD rfl rfl (fun _ => rfl) (fun m20 hD => ?_)
      refine ax_Wp.go (f' := (137, [some (.ref 130), some (.int v3.1), none], [.ref 130])) 1 rfl ?_
      refine bnd hD (fun r21 hx hD => ?_)
      refine ax_Wp.callE (f' := (140, [some (.ref 130), some (.int v3.1), none], [])) rfl rfl (w_164 (d := d + 0) hx) rfl ?_
      refine ax_Wp.go (f' := (141, [some (.ref 130), some (.int v3.1), none], [.int v3.1])) 1 rfl ?_
      obtain rfl := inj hD
      exact ax_Wp.ret rfl ⟨rfl, rfl⟩
    clear hD
    refine ax_Wp.lpD (fun (s16 : Int32 × dM) => ((101, [some (.ref 130), some (.int v3.1), some (.int s16.1)], []), stt s16.2)) ?_ hx
    clear hx
    intro s16 v hD ks16
    refine ax_Wp.go (f' := (103, [some (.ref 130), some (.int v3.1), some (.int s16.1)], [.int (nI 4), .int s16.1])) 2 rfl ?_
    refine ax_Wp.brD hD rfl (fun _ hD => ?_) (fun _ hD => ?_)
    · obtain rfl := inj hD
      obtain rfl := ks16.o
      exact ax_Wp.dead kkv17 ⟨.inl rfl, ⟨.inl rfl, ⟨.inr ⟨rfl, trivial⟩, trivial⟩⟩⟩
    · refine ax_Wp.go (f' := (108, [some (.ref 130), some (.int v3.1), some (.int s16.1)], [.int s16.1, .ref 130])) 2 rfl ?_
      refine bnd hD (fun r18 hx hD => ?_)
      refine ax_Wp.callE (f' := (111, [some (.ref 130), some (.int v3.1), some (.int s16.1)], [])) rfl rfl (w_175 (d := d + 0) hx) rfl ?_
      refine ax_Wp.go (f' := (115, [some (.ref 130), some (.int v3.1), some (.int s16.1)], [.int (-1), .int (nI 2), .int s16.1, .ref 130])) 4 rfl ?_
      refine bnd hD (fun r19 hx hD => ?_)
      refine ax_Wp.callE (f' := (118, [some (.ref 130), some (.int v3.1), some (.int s16.1)], [])) rfl rfl (w_151 (d := d + 3) hx) rfl ?_
      refine ax_Wp.go (f' := (101, [some (.ref 130), some (.int v3.1), some (.int (s16.1 + (nI 1)))], [])) 2 rfl ?_
      obtain rfl := inj hD
      exact ks16.i
  clear hD
  refine ax_Wp.lpD (fun (s2 : Int32 × Int32 × dM) => ((8, [some (.ref 130), some (.int s2.1), some (.int s2.2.1)], []), stt s2.2.2)) ?_ hx
  clear hx
  intro s2 v hD ks2
  refine ax_Wp.go (f' := (10, [some (.ref 130), some (.int s2.1), some (.int s2.2.1)], [.int (nI 4), .int s2.2.1])) 2 rfl ?_
  refine ax_Wp.brD hD rfl (fun _ hD => ?_) (fun _ hD => ?_)
  · obtain rfl := inj hD
    obtain rfl := ks2.o
    exact ax_Wp.dead kkv3 ⟨.inl rfl, ⟨.inl rfl, ⟨.inr ⟨rfl, trivial⟩, trivial⟩⟩⟩
  · refine ax_Wp.go (f' := (21, [some (.ref 130), some (.int s2.1), some (.int s2.2.1)], [.int s2.2.1, .ref 135, .int (nI 4), .int s2.2.1, .ref 130])) 6 rfl ?_
    refine ax_Wp.rdI hD rfl rfl rfl (fun x4 hD => ?_)
    refine bnd hD (fun r5 hx hD => ?_)
    refine ax_Wp.callE (f' := (25, [some (.ref 130), some (.int s2.1), some (.int s2.2.1)], [])) rfl rfl (w_151 (d := d + 3) hx) rfl ?_
    refine ax_Wp.go (f' := (30, [some (.ref 130), some (.int s2.1), some (.int s2.2.1)], [.int s2.2.1, .ref 135])) 3 rfl ?_
    refine ax_Wp.rdI hD rfl rfl rfl (fun x6 hD => ?_)
    refine bnd hD (fun v7 hx hD => ?_)
    refine ax_Wp.jn (F := (67, [some (.ref 130), some (.int v7.1), some (.int s2.2.1)], [])) (hh := stt v7.2) ?_ (fun kkv7 => ?_)
    · refine ax_Wp.go (f' := (81, [some (.ref 130), some (.int v7.1), some (.int s2.2.1)], [.int s2.2.1, .ref 135, .int (rI v7.2 131 169), .int (nI 169), .ref 131])) 8 rfl ?_
      refine ax_Wp.rdI hD rfl rfl rfl (fun x13 hD => ?_)
      refine ax_Wp.go (f' := (83, [some (.ref 130), some (.int v7.1), some (.int s2.2.1)], [.int (nI 1), .int x13, .int (rI v7.2 131 169), .int (nI 169), .ref 131])) 1 rfl ?_
      refine bnd hD (fun v14 hx hD => ?_)
      refine ax_Wp.jn (F := (91, [some (.ref 130), some (.int v7.1), some (.int s2.2.1)], [.int v14, .int (rI v7.2 131 169), .int (nI 169), .ref 131])) (hh := stt v7.2) ?_ (fun kkv14 => ?_)
      · refine ax_Wp.go (f' := (92, [some (.ref 130), some (.int v7.1), some (.int s2.2.1)], [.int ((rI v7.2 131 169) + v14), .int (nI 169), .ref 131])) 1 rfl ?_
        refine ax_Wp.wrI hD rfl rfl (fun _ => rfl) (fun m15 hD => ?_)
        refine ax_Wp.go (f' := (8, [some (.ref 130), some (.int v7.1), some (.int (s2.2.1 + (nI 1)))], [])) 2 rfl ?_
        obtain rfl := inj hD
        exact ks2.i
      clear hD
      have hD := hx
      clear hx
      refine ax_Wp.brD hD rfl (fun _ hD => ?_) (fun _ hD => ?_)
      · refine ax_Wp.go (f' := (91, [some (.ref 130), some (.int v7.1), some (.int s2.2.1)], [.int (nI 0), .int (rI v7.2 131 169), .int (nI 169), .ref 131])) 1 rfl ?_
        obtain rfl := inj hD
        exact kkv14
      · refine ax_Wp.go (f' := (91, [some (.ref 130), some (.int v7.1), some (.int s2.2.1)], [.int (nI 1), .int (rI v7.2 131 169), .int (nI 169), .ref 131])) 2 rfl ?_
        obtain rfl := inj hD
        exact kkv14
    clear hD
    have hD := hx
    clear hx
    refine ax_Wp.brD hD rfl (fun _ hD => ?_) (fun _ hD => ?_)
    · refine ax_Wp.go (f' := (41, [some (.ref 130), some (.int s2.1), some (.int s2.2.1)], [.int (nI 2), .int s2.2.1, .ref 130, .ref 130, .int (nI 0), .int s2.2.1, .ref 130])) 7 rfl ?_
      refine bnd hD (fun x8 hx hD => ?_)
      refine ax_Wp.callE (f' := (44, [some (.ref 130), some (.int s2.1), some (.int s2.2.1)], [.ref 130, .int (nI 0), .int s2.2.1, .ref 130])) rfl rfl (w_150 (d := d + 3) hx) rfl ?_
      refine bnd hD (fun x9 hx hD => ?_)
      refine ax_Wp.callE (f' := (47, [some (.ref 130), some (.int s2.1), some (.int s2.2.1)], [.int (nI 0), .int s2.2.1, .ref 130])) rfl rfl (w_155 (d := d + 3) hx) rfl ?_
      refine bnd hD (fun r10 hx hD => ?_)
      refine ax_Wp.callE (f' := (50, [some (.ref 130), some (.int s2.1), some (.int s2.2.1)], [])) rfl rfl (w_151 (d := d + 3) hx) rfl ?_
      refine ax_Wp.go (f' := (56, [some (.ref 130), some (.int s2.1), some (.int s2.2.1)], [.int (nI 3), .int s2.2.1, .ref 130, .int (nI 3), .int s2.2.1, .ref 130])) 6 rfl ?_
      refine bnd hD (fun x11 hx hD => ?_)
      refine ax_Wp.callE (f' := (59, [some (.ref 130), some (.int s2.1), some (.int s2.2.1)], [.int (nI 3), .int s2.2.1, .ref 130])) rfl rfl (w_150 (d := d + 3) hx) rfl ?_
      refine ax_Wp.go (f' := (61, [some (.ref 130), some (.int s2.1), some (.int s2.2.1)], [.int (x11 + (nI 1)), .int (nI 3), .int s2.2.1, .ref 130])) 2 rfl ?_
      refine bnd hD (fun r12 hx hD => ?_)
      refine ax_Wp.callE (f' := (64, [some (.ref 130), some (.int s2.1), some (.int s2.2.1)], [])) rfl rfl (w_151 (d := d + 3) hx) rfl ?_
      refine ax_Wp.go (f' := (67, [some (.ref 130), some (.int (s2.1 + (nI 1))), some (.int s2.2.1)], [])) 1 rfl ?_
      obtain rfl := inj hD
      exact kkv7
    · obtain rfl := inj hD
      exact kkv7
def D187 (m : dM) : Option (Int32 × dM) := (fI m 130 7 (nI 0)).bind fun (m1 : dM) => (D168 m1).bind fun (x2 : Int32) => if x2 = (nI 0) then (D149 m1).bind fun (r3 : dM) => (D176 r3).bind fun (r4 : Int32 × dM) => some (r4.1, r4.2) else (D143 m1 (nI 1)).bind fun (r5 : Int32 × dM) => some (r5.1, r5.2)
set_option maxRecDepth 20000 in
theorem w_187 {X : Nat × (Nat → Int32)} {d : Nat} {m : dM} {r : Int32 × dM} (hD : D187 m = some r) : ax_Ev X (d + 6) 187 [.ref 130] (stt m) (.inl (some (.int r.1))) (stt r.2) := by
  unfold D187 at hD
  show ax_Wp X (d + 5 + 1) 187 (0, [some (.ref 130)], []) (stt m) _
  refine ax_Wp.go (f' := (2, [some (.ref 130)], [.int (nI 0), .ref 130])) 2 rfl ?_
  refine ax_Wp.ptI hD rfl rfl rfl (fun m1 hD => ?_)
  refine ax_Wp.go (f' := (6, [some (.ref 130)], [.ref 130])) 1 rfl ?_
  refine bnd hD (fun x2 hx hD => ?_)
  refine ax_Wp.callE (f' := (9, [some (.ref 130)], [])) rfl rfl (w_168 (d := d + 1) hx) rfl ?_
  refine ax_Wp.brD hD rfl (fun _ hD => ?_) (fun _ hD => ?_)
  · refine ax_Wp.go (f' := (19, [some (.ref 130)], [.ref 130])) 1 rfl ?_
    refine bnd hD (fun r3 hx hD => ?_)
    refine ax_Wp.callE (f' := (22, [some (.ref 130)], [])) rfl rfl (w_149 (d := d + 4) hx) rfl ?_
    refine ax_Wp.go (f' := (23, [some (.ref 130)], [.ref 130])) 1 rfl ?_
    refine bnd hD (fun r4 hx hD => ?_)
    refine ax_Wp.callE (f' := (26, [some (.ref 130)], [])) rfl rfl (w_176 (d := d + 0) hx) rfl ?_
    obtain rfl := inj hD
    exact ax_Wp.ret rfl ⟨rfl, rfl⟩
  · refine ax_Wp.go (f' := (14, [some (.ref 130)], [.int (nI 1), .ref 130])) 2 rfl ?_
    refine bnd hD (fun r5 hx hD => ?_)
    refine ax_Wp.callE (f' := (17, [some (.ref 130)], [])) rfl rfl (w_143 (d := d + 4) hx) rfl ?_
    obtain rfl := inj hD
    exact ax_Wp.ret rfl ⟨rfl, rfl⟩
def D188 (m : dM) (p0 : Int32) : Option (Int32 × dM) := (fI m 130 7 (nI 0)).bind fun (m1 : dM) => (D144 p0 (nI 33) (nI 126)).bind fun (x2 : Int32) => if x2 = (nI 0) then (D143 m1 (nI 1)).bind fun (r3 : Int32 × dM) => some (r3.1, r3.2) else if (rI m1 130 6) = (nI 60) then (D143 m1 (nI 2)).bind fun (r4 : Int32 × dM) => some (r4.1, r4.2) else (sI m1 134 60 (rI m1 130 6) p0).bind fun (m5 : dM) => (fI m5 130 6 ((rI m5 130 6) + (nI 1))).bind fun (m6 : dM) => some (rI m6 130 6, m6)
set_option maxRecDepth 20000 in
theorem w_188 {X : Nat × (Nat → Int32)} {d : Nat} {m : dM} {p0 : Int32} {r : Int32 × dM} (hD : D188 m p0 = some r) : ax_Ev X (d + 2) 188 [.ref 130, .int p0] (stt m) (.inl (some (.int r.1))) (stt r.2) := by
  unfold D188 at hD
  show ax_Wp X (d + 1 + 1) 188 (0, [some (.ref 130), some (.int p0)], []) (stt m) _
  refine ax_Wp.go (f' := (2, [some (.ref 130), some (.int p0)], [.int (nI 0), .ref 130])) 2 rfl ?_
  refine ax_Wp.ptI hD rfl rfl rfl (fun m1 hD => ?_)
  refine ax_Wp.go (f' := (10, [some (.ref 130), some (.int p0)], [.int (nI 126), .int (nI 33), .int p0])) 3 rfl ?_
  refine bnd hD (fun x2 hx hD => ?_)
  refine ax_Wp.callE (f' := (13, [some (.ref 130), some (.int p0)], [])) rfl rfl (w_144 (d := d + 0) hx) rfl ?_
  refine ax_Wp.brD hD rfl (fun _ hD => ?_) (fun _ hD => ?_)
  · refine ax_Wp.go (f' := (18, [some (.ref 130), some (.int p0)], [.int (nI 1), .ref 130])) 2 rfl ?_
    refine bnd hD (fun r3 hx hD => ?_)
    refine ax_Wp.callE (f' := (21, [some (.ref 130), some (.int p0)], [])) rfl rfl (w_143 (d := d + 0) hx) rfl ?_
    obtain rfl := inj hD
    exact ax_Wp.ret rfl ⟨rfl, rfl⟩
  · refine ax_Wp.go (f' := (28, [some (.ref 130), some (.int p0)], [.int (nI 60), .int (rI m1 130 6)])) 3 rfl ?_
    refine ax_Wp.brD hD rfl (fun _ hD => ?_) (fun _ hD => ?_)
    · refine ax_Wp.go (f' := (33, [some (.ref 130), some (.int p0)], [.int (nI 2), .ref 130])) 2 rfl ?_
      refine bnd hD (fun r4 hx hD => ?_)
      refine ax_Wp.callE (f' := (36, [some (.ref 130), some (.int p0)], [])) rfl rfl (w_143 (d := d + 0) hx) rfl ?_
      obtain rfl := inj hD
      exact ax_Wp.ret rfl ⟨rfl, rfl⟩
    · refine ax_Wp.go (f' := (46, [some (.ref 130), some (.int p0)], [.int p0, .int (rI m1 130 6), .ref 134])) 5 rfl ?_
      refine ax_Wp.wrI hD rfl rfl (fun _ => rfl) (fun m5 hD => ?_)
      refine ax_Wp.go (f' := (54, [some (.ref 130), some (.int p0)], [.int ((rI m5 130 6) + (nI 1)), .ref 130])) 5 rfl ?_
      refine ax_Wp.ptI hD rfl rfl rfl (fun m6 hD => ?_)
      refine ax_Wp.go (f' := (61, [some (.ref 130), some (.int p0)], [.int (rI m6 130 6)])) 2 rfl ?_
      obtain rfl := inj hD
      exact ax_Wp.ret rfl ⟨rfl, rfl⟩
def D81 (m : dM) : Option (Int32 × dM) := (D12 m).bind fun (r1 : Int32 × dM) => some (r1.1, r1.2)
set_option maxRecDepth 20000 in
theorem w_81 {X : Nat × (Nat → Int32)} {d : Nat} {m : dM} {r : Int32 × dM} (hD : D81 m = some r) : ax_Ev X (d + 2) 81 [.ref 0] (stt m) (.inl (some (.int r.1))) (stt r.2) := by
  unfold D81 at hD
  show ax_Wp X (d + 1 + 1) 81 (0, [some (.ref 0)], []) (stt m) _
  refine ax_Wp.go (f' := (4, [some (.ref 0)], [.ref 42])) 2 rfl ?_
  refine bnd hD (fun r1 hx hD => ?_)
  refine ax_Wp.callE (f' := (7, [some (.ref 0)], [])) rfl rfl (w_12 (d := d + 0) hx) rfl ?_
  obtain rfl := inj hD
  exact ax_Wp.ret rfl ⟨rfl, rfl⟩
def D189 (m : dM) : Option (Int32 × dM) := (fI m 130 7 (nI 0)).bind fun (m1 : dM) => (fI m1 130 6 (nI 0)).bind fun (m2 : dM) => some (rI m1 130 6, m2)
set_option maxRecDepth 20000 in
theorem w_189 {X : Nat × (Nat → Int32)} {d : Nat} {m : dM} {r : Int32 × dM} (hD : D189 m = some r) : ax_Ev X (d + 1) 189 [.ref 130] (stt m) (.inl (some (.int r.1))) (stt r.2) := by
  unfold D189 at hD
  show ax_Wp X (d + 0 + 1) 189 (0, [some (.ref 130), none], []) (stt m) _
  refine ax_Wp.go (f' := (2, [some (.ref 130), none], [.int (nI 0), .ref 130])) 2 rfl ?_
  refine ax_Wp.ptI hD rfl rfl rfl (fun m1 hD => ?_)
  refine ax_Wp.go (f' := (12, [some (.ref 130), some (.int (rI m1 130 6))], [.int (nI 0), .ref 130])) 5 rfl ?_
  refine ax_Wp.ptI hD rfl rfl rfl (fun m2 hD => ?_)
  refine ax_Wp.go (f' := (16, [some (.ref 130), some (.int (rI m1 130 6))], [.int (rI m1 130 6)])) 1 rfl ?_
  obtain rfl := inj hD
  exact ax_Wp.ret rfl ⟨rfl, rfl⟩
def D13 (m : dM) : Option (Int32) := lp (β := Int32) 3000 (fun (s1 : Int32 × Int32) => if (rI m 42 1) ≤ s1.2 then some (.inr (rI m 42 1)) else (gI m 43 60 s1.2).bind fun (x2 : Int32) => (D15 s1.1 x2).bind fun (x3 : Int32) => if x3 = (-1) then some (.inr s1.2) else some (.inl (x3, s1.2 + (nI 1)))) (nI 0, nI 0)
set_option maxRecDepth 20000 in
theorem w_13 {X : Nat × (Nat → Int32)} {d : Nat} {m : dM} {r : Int32} (hD : D13 m = some r) : ax_Ev X (d + 4) 13 [.ref 42] (stt m) (.inl (some (.int r))) (stt m) := by
  unfold D13 at hD
  show ax_Wp X (d + 3 + 1) 13 (0, [some (.ref 42), none, none], []) (stt m) _
  refine ax_Wp.go (f' := (4, [some (.ref 42), some (.int (nI 0)), some (.int (nI 0))], [])) 4 rfl ?_
  refine ax_Wp.lpD (fun (s1 : Int32 × Int32) => ((4, [some (.ref 42), some (.int s1.1), some (.int s1.2)], []), stt m)) ?_ hD
  clear hD
  intro s1 v hD ks1
  refine ax_Wp.go (f' := (9, [some (.ref 42), some (.int s1.1), some (.int s1.2)], [.int (rI m 42 1), .int s1.2])) 3 rfl ?_
  refine ax_Wp.brD hD rfl (fun _ hD => ?_) (fun _ hD => ?_)
  · refine ax_Wp.go (f' := (40, [some (.ref 42), some (.int s1.1), some (.int s1.2)], [.int (rI m 42 1)])) 2 rfl ?_
    obtain rfl := inj hD
    obtain rfl := ks1.o
    exact ax_Wp.ret rfl ⟨rfl, rfl⟩
  · refine ax_Wp.go (f' := (18, [some (.ref 42), some (.int s1.1), some (.int s1.2)], [.int s1.2, .ref 43, .int s1.1])) 4 rfl ?_
    refine ax_Wp.rdI hD rfl rfl rfl (fun x2 hD => ?_)
    refine bnd hD (fun x3 hx hD => ?_)
    refine ax_Wp.callE (f' := (22, [some (.ref 42), some (.int s1.1), some (.int s1.2)], [])) rfl rfl (w_15 (d := d + 0) hx) rfl ?_
    refine ax_Wp.go (f' := (25, [some (.ref 42), some (.int x3), some (.int s1.2)], [.int (-1), .int x3])) 3 rfl ?_
    refine ax_Wp.brD hD rfl (fun _ hD => ?_) (fun _ hD => ?_)
    · refine ax_Wp.go (f' := (29, [some (.ref 42), some (.int x3), some (.int s1.2)], [.int s1.2])) 1 rfl ?_
      obtain rfl := inj hD
      obtain rfl := ks1.o
      exact ax_Wp.ret rfl ⟨rfl, rfl⟩
    · refine ax_Wp.go (f' := (4, [some (.ref 42), some (.int x3), some (.int (s1.2 + (nI 1)))], [])) 2 rfl ?_
      obtain rfl := inj hD
      exact ks1.i
def D82 (m : dM) : Option (Int32) := (D13 m).bind fun (x1 : Int32) => some x1
set_option maxRecDepth 20000 in
theorem w_82 {X : Nat × (Nat → Int32)} {d : Nat} {m : dM} {r : Int32} (hD : D82 m = some r) : ax_Ev X (d + 5) 82 [.ref 0] (stt m) (.inl (some (.int r))) (stt m) := by
  unfold D82 at hD
  show ax_Wp X (d + 4 + 1) 82 (0, [some (.ref 0)], []) (stt m) _
  refine ax_Wp.go (f' := (4, [some (.ref 0)], [.ref 42])) 2 rfl ?_
  refine bnd hD (fun x1 hx hD => ?_)
  refine ax_Wp.callE (f' := (7, [some (.ref 0)], [])) rfl rfl (w_13 (d := d + 0) hx) rfl ?_
  obtain rfl := inj hD
  exact ax_Wp.ret rfl ⟨rfl, rfl⟩
def D190 (m : dM) (p0 : Int32) (p1 : Int32) : Option (Int32 × dM) := Option.bind ((if (rI m 130 6) ≤ (rI m 130 10) then some (nI 0) else if (rI m 130 11) = (nI 0) then (gI m 134 60 (rI m 130 10)).bind fun (x2 : Int32) => some x2 else some (nI 0)) : Option (Int32)) fun (v1 : Int32) => Option.bind ((if (rI m 130 11) = (nI 0) then (D144 v1 p0 p1).bind fun (x4 : Int32) => if x4 = (nI 0) then some (nI 1) else some (nI 0) else some (nI 1)) : Option (Int32)) fun (v3 : Int32) => ((gB v3).bind fun y => fI m 130 11 y).bind fun (m5 : dM) => Option.bind ((if (rI m5 130 11) = (nI 0) then some (nI 1) else some (nI 0)) : Option (Int32)) fun (v6 : Int32) => (fI m5 130 10 ((rI m5 130 10) + v6)).bind fun (m7 : dM) => some (v1, m7)
set_option maxRecDepth 20000 in
theorem w_190 {X : Nat × (Nat → Int32)} {d : Nat} {m : dM} {p0 : Int32} {p1 : Int32} {r : Int32 × dM} (hD : D190 m p0 p1 = some r) : ax_Ev X (d + 2) 190 [.ref 130, .int p0, .int p1] (stt m) (.inl (some (.int r.1))) (stt r.2) := by
  unfold D190 at hD
  show ax_Wp X (d + 1 + 1) 190 (0, [some (.ref 130), some (.int p0), some (.int p1), none], []) (stt m) _
  refine ax_Wp.go (f' := (8, [some (.ref 130), some (.int p0), some (.int p1), none], [.int (rI m 130 6), .int (rI m 130 10)])) 4 rfl ?_
  refine bnd hD (fun v1 hx hD => ?_)
  refine ax_Wp.jn (F := (31, [some (.ref 130), some (.int p0), some (.int p1), none], [.int v1])) (hh := stt m) ?_ (fun kkv1 => ?_)
  · refine ax_Wp.go (f' := (37, [some (.ref 130), some (.int p0), some (.int p1), some (.int v1)], [.int (rI m 130 11), .ref 130])) 4 rfl ?_
    refine bnd hD (fun v3 hx hD => ?_)
    refine ax_Wp.jn (F := (54, [some (.ref 130), none, none, some (.int v1)], [.int v3, .ref 130])) (hh := stt m) ?_ (fun kkv3 => ?_)
    · refine ax_Wp.ptB hD rfl rfl rfl (fun m5 hD => ?_)
      refine ax_Wp.go (f' := (66, [some (.ref 130), none, none, some (.int v1)], [.int (rI m5 130 11), .int (rI m5 130 10), .ref 130])) 5 rfl ?_
      refine bnd hD (fun v6 hx hD => ?_)
      refine ax_Wp.jn (F := (74, [some (.ref 130), none, none, some (.int v1)], [.int v6, .int (rI m5 130 10), .ref 130])) (hh := stt m5) ?_ (fun kkv6 => ?_)
      · refine ax_Wp.go (f' := (75, [some (.ref 130), none, none, some (.int v1)], [.int ((rI m5 130 10) + v6), .ref 130])) 1 rfl ?_
        refine ax_Wp.ptI hD rfl rfl rfl (fun m7 hD => ?_)
        refine ax_Wp.go (f' := (79, [some (.ref 130), none, none, some (.int v1)], [.int v1])) 1 rfl ?_
        obtain rfl := inj hD
        exact ax_Wp.ret rfl ⟨rfl, rfl⟩
      clear hD
      have hD := hx
      clear hx
      refine ax_Wp.brD hD rfl (fun _ hD => ?_) (fun _ hD => ?_)
      · refine ax_Wp.go (f' := (74, [some (.ref 130), none, none, some (.int v1)], [.int (nI 1), .int (rI m5 130 10), .ref 130])) 1 rfl ?_
        obtain rfl := inj hD
        exact kkv6
      · refine ax_Wp.go (f' := (74, [some (.ref 130), none, none, some (.int v1)], [.int (nI 0), .int (rI m5 130 10), .ref 130])) 2 rfl ?_
        obtain rfl := inj hD
        exact kkv6
    clear hD
    have hD := hx
    clear hx
    refine ax_Wp.brD hD rfl (fun _ hD => ?_) (fun _ hD => ?_)
    · refine ax_Wp.go (f' := (43, [some (.ref 130), some (.int p0), some (.int p1), some (.int v1)], [.int p1, .int p0, .int v1, .ref 130])) 3 rfl ?_
      refine bnd hD (fun x4 hx hD => ?_)
      refine ax_Wp.callE (f' := (46, [some (.ref 130), some (.int p0), some (.int p1), some (.int v1)], [.ref 130])) rfl rfl (w_144 (d := d + 0) hx) rfl ?_
      refine ax_Wp.brD hD rfl (fun _ hD => ?_) (fun _ hD => ?_)
      · refine ax_Wp.go (f' := (54, [some (.ref 130), some (.int p0), some (.int p1), some (.int v1)], [.int (nI 1), .ref 130])) 2 rfl ?_
        obtain rfl := inj hD
        exact ax_Wp.dead kkv3 ⟨.inl rfl, ⟨.inr ⟨rfl, trivial⟩, ⟨.inr ⟨rfl, trivial⟩, ⟨.inl rfl, trivial⟩⟩⟩⟩
      · refine ax_Wp.go (f' := (54, [some (.ref 130), some (.int p0), some (.int p1), some (.int v1)], [.int (nI 0), .ref 130])) 1 rfl ?_
        obtain rfl := inj hD
        exact ax_Wp.dead kkv3 ⟨.inl rfl, ⟨.inr ⟨rfl, trivial⟩, ⟨.inr ⟨rfl, trivial⟩, ⟨.inl rfl, trivial⟩⟩⟩⟩
    · refine ax_Wp.go (f' := (54, [some (.ref 130), some (.int p0), some (.int p1), some (.int v1)], [.int (nI 1), .ref 130])) 2 rfl ?_
      obtain rfl := inj hD
      exact ax_Wp.dead kkv3 ⟨.inl rfl, ⟨.inr ⟨rfl, trivial⟩, ⟨.inr ⟨rfl, trivial⟩, ⟨.inl rfl, trivial⟩⟩⟩⟩
  clear hD
  have hD := hx
  clear hx
  refine ax_Wp.brD hD rfl (fun _ hD => ?_) (fun _ hD => ?_)
  · refine ax_Wp.go (f' := (31, [some (.ref 130), some (.int p0), some (.int p1), none], [.int (nI 0)])) 1 rfl ?_
    obtain rfl := inj hD
    exact kkv1
  · refine ax_Wp.go (f' := (15, [some (.ref 130), some (.int p0), some (.int p1), none], [.int (rI m 130 11)])) 2 rfl ?_
    refine ax_Wp.brD hD rfl (fun _ hD => ?_) (fun _ hD => ?_)
    · refine ax_Wp.go (f' := (26, [some (.ref 130), some (.int p0), some (.int p1), none], [.int (rI m 130 10), .ref 134])) 4 rfl ?_
      refine ax_Wp.rdI hD rfl rfl rfl (fun x2 hD => ?_)
      refine ax_Wp.go (f' := (31, [some (.ref 130), some (.int p0), some (.int p1), none], [.int x2])) 1 rfl ?_
      obtain rfl := inj hD
      exact kkv1
    · refine ax_Wp.go (f' := (31, [some (.ref 130), some (.int p0), some (.int p1), none], [.int (nI 0)])) 1 rfl ?_
      obtain rfl := inj hD
      exact kkv1
def D191 (m : dM) : Option (Int32 × dM) := (D190 m (nI 48) (nI 57)).bind fun (r1 : Int32 × dM) => Option.bind ((if (rI r1.2 130 11) = (nI 0) then if (r1.1 - (nI 48)) ≤ (nI 0) then some (nI 0) else if (rI r1.2 130 6) ≤ (rI r1.2 130 10) then some (nI 0) else (gI r1.2 134 60 (rI r1.2 130 10)).bind fun (x3 : Int32) => (D144 x3 (nI 48) (nI 57)).bind fun (x4 : Int32) => if x4 = (nI 0) then some (nI 0) else (gI r1.2 134 60 (rI r1.2 130 10)).bind fun (x5 : Int32) => if (nI 24) ≤ ((((nI 10) * (r1.1 - (nI 48))) + x5) - (nI 48)) then some (nI 0) else some (nI 1) else some (nI 0)) : Option (Int32)) fun (v2 : Int32) => Option.bind ((if v2 = (nI 0) then some (r1.1 - (nI 48), r1.2) else (D190 r1.2 (nI 48) (nI 57)).bind fun (r7 : Int32 × dM) => some ((((nI 10) * (r1.1 - (nI 48))) + r7.1) - (nI 48), r7.2)) : Option (Int32 × dM)) fun (v6 : Int32 × dM) => some (v6.1, v6.2)
set_option maxRecDepth 20000 in
theorem w_191 {X : Nat × (Nat → Int32)} {d : Nat} {m : dM} {r : Int32 × dM} (hD : D191 m = some r) : ax_Ev X (d + 3) 191 [.ref 130] (stt m) (.inl (some (.int r.1))) (stt r.2) := by
  unfold D191 at hD
  show ax_Wp X (d + 2 + 1) 191 (0, [some (.ref 130), none, none], []) (stt m) _
  refine ax_Wp.go (f' := (5, [some (.ref 130), none, none], [.int (nI 57), .int (nI 48), .ref 130])) 3 rfl ?_
  refine bnd hD (fun r1 hx hD => ?_)
  refine ax_Wp.callE (f' := (8, [some (.ref 130), none, none], [])) rfl rfl (w_190 (d := d + 0) hx) rfl ?_
  refine ax_Wp.go (f' := (16, [some (.ref 130), some (.int (r1.1 - (nI 48))), none], [.int (rI r1.2 130 11)])) 5 rfl ?_
  refine bnd hD (fun v2 hx hD => ?_)
  refine ax_Wp.jn (F := (80, [some (.ref 130), some (.int (r1.1 - (nI 48))), none], [.int v2])) (hh := stt r1.2) ?_ (fun kkv2 => ?_)
  · refine ax_Wp.go (f' := (82, [some (.ref 130), some (.int (r1.1 - (nI 48))), some (.int v2)], [.int v2])) 2 rfl ?_
    refine bnd hD (fun v6 hx hD => ?_)
    refine ax_Wp.jn (F := (105, [some (.ref 130), none, none], [.int v6.1])) (hh := stt v6.2) ?_ (fun kkv6 => ?_)
    · obtain rfl := inj hD
      exact ax_Wp.ret rfl ⟨rfl, rfl⟩
    clear hD
    have hD := hx
    clear hx
    refine ax_Wp.brD hD rfl (fun _ hD => ?_) (fun _ hD => ?_)
    · refine ax_Wp.go (f' := (105, [some (.ref 130), some (.int (r1.1 - (nI 48))), some (.int v2)], [.int (r1.1 - (nI 48))])) 1 rfl ?_
      obtain rfl := inj hD
      exact ax_Wp.dead kkv6 ⟨.inl rfl, ⟨.inr ⟨rfl, trivial⟩, ⟨.inr ⟨rfl, trivial⟩, trivial⟩⟩⟩
    · refine ax_Wp.go (f' := (94, [some (.ref 130), some (.int (r1.1 - (nI 48))), some (.int v2)], [.int (nI 57), .int (nI 48), .ref 130, .int ((nI 10) * (r1.1 - (nI 48)))])) 6 rfl ?_
      refine bnd hD (fun r7 hx hD => ?_)
      refine ax_Wp.callE (f' := (97, [some (.ref 130), some (.int (r1.1 - (nI 48))), some (.int v2)], [.int ((nI 10) * (r1.1 - (nI 48)))])) rfl rfl (w_190 (d := d + 0) hx) rfl ?_
      refine ax_Wp.go (f' := (105, [some (.ref 130), some (.int (r1.1 - (nI 48))), some (.int v2)], [.int ((((nI 10) * (r1.1 - (nI 48))) + r7.1) - (nI 48))])) 4 rfl ?_
      obtain rfl := inj hD
      exact ax_Wp.dead kkv6 ⟨.inl rfl, ⟨.inr ⟨rfl, trivial⟩, ⟨.inr ⟨rfl, trivial⟩, trivial⟩⟩⟩
  clear hD
  have hD := hx
  clear hx
  refine ax_Wp.brD hD rfl (fun _ hD => ?_) (fun _ hD => ?_)
  · refine ax_Wp.go (f' := (20, [some (.ref 130), some (.int (r1.1 - (nI 48))), none], [.int (r1.1 - (nI 48))])) 1 rfl ?_
    refine ax_Wp.brD hD rfl (fun _ hD => ?_) (fun _ hD => ?_)
    · refine ax_Wp.go (f' := (80, [some (.ref 130), some (.int (r1.1 - (nI 48))), none], [.int (nI 0)])) 1 rfl ?_
      obtain rfl := inj hD
      exact kkv2
    · refine ax_Wp.go (f' := (31, [some (.ref 130), some (.int (r1.1 - (nI 48))), none], [.int (rI r1.2 130 6), .int (rI r1.2 130 10)])) 4 rfl ?_
      refine ax_Wp.brD hD rfl (fun _ hD => ?_) (fun _ hD => ?_)
      · refine ax_Wp.go (f' := (80, [some (.ref 130), some (.int (r1.1 - (nI 48))), none], [.int (nI 0)])) 1 rfl ?_
        obtain rfl := inj hD
        exact kkv2
      · refine ax_Wp.go (f' := (42, [some (.ref 130), some (.int (r1.1 - (nI 48))), none], [.int (rI r1.2 130 10), .ref 134])) 4 rfl ?_
        refine ax_Wp.rdI hD rfl rfl rfl (fun x3 hD => ?_)
        refine ax_Wp.go (f' := (47, [some (.ref 130), some (.int (r1.1 - (nI 48))), none], [.int (nI 57), .int (nI 48), .int x3])) 2 rfl ?_
        refine bnd hD (fun x4 hx hD => ?_)
        refine ax_Wp.callE (f' := (50, [some (.ref 130), some (.int (r1.1 - (nI 48))), none], [])) rfl rfl (w_144 (d := d + 1) hx) rfl ?_
        refine ax_Wp.brD hD rfl (fun _ hD => ?_) (fun _ hD => ?_)
        · refine ax_Wp.go (f' := (80, [some (.ref 130), some (.int (r1.1 - (nI 48))), none], [.int (nI 0)])) 1 rfl ?_
          obtain rfl := inj hD
          exact kkv2
        · refine ax_Wp.go (f' := (65, [some (.ref 130), some (.int (r1.1 - (nI 48))), none], [.int (rI r1.2 130 10), .ref 134, .int ((nI 10) * (r1.1 - (nI 48)))])) 7 rfl ?_
          refine ax_Wp.rdI hD rfl rfl rfl (fun x5 hD => ?_)
          refine ax_Wp.go (f' := (72, [some (.ref 130), some (.int (r1.1 - (nI 48))), none], [.int (nI 24), .int ((((nI 10) * (r1.1 - (nI 48))) + x5) - (nI 48))])) 4 rfl ?_
          refine ax_Wp.brD hD rfl (fun _ hD => ?_) (fun _ hD => ?_)
          · refine ax_Wp.go (f' := (80, [some (.ref 130), some (.int (r1.1 - (nI 48))), none], [.int (nI 0)])) 1 rfl ?_
            obtain rfl := inj hD
            exact kkv2
          · refine ax_Wp.go (f' := (80, [some (.ref 130), some (.int (r1.1 - (nI 48))), none], [.int (nI 1)])) 2 rfl ?_
            obtain rfl := inj hD
            exact kkv2
  · refine ax_Wp.go (f' := (80, [some (.ref 130), some (.int (r1.1 - (nI 48))), none], [.int (nI 0)])) 1 rfl ?_
    obtain rfl := inj hD
    exact kkv2
def D192 (m : dM) (p0 : Int32) : Option (Int32 × dM) := Option.bind ((if (rI m 130 6) ≤ (rI m 130 10) then some (nI 0) else (gI m 134 60 (rI m 130 10)).bind fun (x2 : Int32) => some x2) : Option (Int32)) fun (v1 : Int32) => Option.bind ((if (rI m 130 11) = (nI 0) then if v1 = (nI 111) then some (nI 0) else if v1 = (nI 115) then some (nI 0) else if v1 = (nI 116) then some (nI 0) else if v1 = (nI 114) then some (nI 0) else some (nI 1) else some (nI 1)) : Option (Int32)) fun (v3 : Int32) => ((gB v3).bind fun y => fI m 130 11 y).bind fun (m4 : dM) => Option.bind ((if (rI m4 130 11) = (nI 0) then some (nI 1) else some (nI 0)) : Option (Int32)) fun (v5 : Int32) => (fI m4 130 10 ((rI m4 130 10) + v5)).bind fun (m6 : dM) => if (rI m6 130 11) = (nI 0) then Option.bind ((if v1 = (nI 111) then (D190 m6 (nI 48) (nI 51)).bind fun (r8 : Int32 × dM) => some (r8.1 - (nI 48), r8.2) else if v1 = (nI 115) then (D190 m6 (nI 48) (nI 51)).bind fun (r9 : Int32 × dM) => some (r9.1 - (nI 48), r9.2) else some (nI 0, m6)) : Option (Int32 × dM)) fun (v7 : Int32 × dM) => Option.bind ((if v1 = (nI 111) then (D190 v7.2 (nI 62) (nI 62)).bind fun (r11 : Int32 × dM) => some (r11.1, r11.2) else some (nI 0, v7.2)) : Option (Int32 × dM)) fun (v10 : Int32 × dM) => Option.bind ((if v1 = (nI 111) then (D191 v10.2).bind fun (r13 : Int32 × dM) => some (r13.1, r13.2) else if v1 = (nI 116) then (D191 v10.2).bind fun (r14 : Int32 × dM) => some (r14.1, r14.2) else some (nI 0, v10.2)) : Option (Int32 × dM)) fun (v12 : Int32 × dM) => if p0 = (nI 0) then some (nI 1, v12.2) else Option.bind ((if v1 = (nI 115) then some (nI 1) else if v1 = (nI 114) then (D168 v12.2).bind fun (x16 : Int32) => if x16 = (nI 0) then some (nI 1) else some (nI 0) else (D147 v12.2 v12.1).bind fun (x17 : Int32) => if x17 = (nI 0) then some (nI 0) else if v1 = (nI 116) then some (nI 1) else (D169 v12.2 v7.1 v12.1).bind fun (x18 : Int32) => if x18 = (nI 0) then some (nI 1) else some (nI 0)) : Option (Int32)) fun (v15 : Int32) => Option.bind ((if v15 = (nI 0) then some v12.2 else Option.bind ((if v1 = (nI 116) then (D177 v12.2 v12.1).bind fun (r21 : Int32 × dM) => if r21.1 = (nI 0) then some (nI 0, r21.2) else some (nI 1, r21.2) else some (nI 0, v12.2)) : Option (Int32 × dM)) fun (v20 : Int32 × dM) => Option.bind ((if v1 = (nI 114) then (D176 v20.2).bind fun (r23 : Int32 × dM) => some (r23.1, r23.2) else some (nI 0, v20.2)) : Option (Int32 × dM)) fun (v22 : Int32 × dM) => if v1 = (nI 111) then Option.bind ((if v1 = (nI 111) then some v12.1 else some (-1)) : Option (Int32)) fun (v24 : Int32) => (D151 v22.2 v7.1 (nI 2) v24).bind fun (r25 : dM) => some r25 else if v1 = (nI 115) then Option.bind ((if v1 = (nI 111) then some v12.1 else some (-1)) : Option (Int32)) fun (v26 : Int32) => (D151 v22.2 v7.1 (nI 2) v26).bind fun (r27 : dM) => some r27 else some v22.2) : Option (dM)) fun (v19 : dM) => (gB v15).bind fun (b28 : Int32) => some (b28, v19) else some (nI 1, m6)
set_option maxRecDepth 20000 in
theorem w_192 {X : Nat × (Nat → Int32)} {d : Nat} {m : dM} {p0 : Int32} {r : Int32 × dM} (hD : D192 m p0 = some r) : ax_Ev X (d + 6) 192 [.ref 130, .int p0] (stt m) (.inl (some (.int r.1))) (stt r.2) := by
  unfold D192 at hD
  show ax_Wp X (d + 5 + 1) 192 (0, [some (.ref 130), some (.int p0), none, none, none, none, none, none, none], []) (stt m) _
  refine ax_Wp.go (f' := (8, [some (.ref 130), some (.int p0), none, none, none, none, none, none, none], [.int (rI m 130 6), .int (rI m 130 10)])) 4 rfl ?_
  refine bnd hD (fun v1 hx hD => ?_)
  refine ax_Wp.jn (F := (24, [some (.ref 130), some (.int p0), none, none, none, none, none, none, none], [.int v1])) (hh := stt m) ?_ (fun kkv1 => ?_)
  · refine ax_Wp.go (f' := (30, [some (.ref 130), some (.int p0), some (.int v1), none, none, none, none, none, none], [.int (rI m 130 11), .ref 130])) 4 rfl ?_
    refine bnd hD (fun v3 hx hD => ?_)
    refine ax_Wp.jn (F := (62, [some (.ref 130), some (.int p0), some (.int v1), none, none, none, none, none, none], [.int v3, .ref 130])) (hh := stt m) ?_ (fun kkv3 => ?_)
    · refine ax_Wp.ptB hD rfl rfl rfl (fun m4 hD => ?_)
      refine ax_Wp.go (f' := (74, [some (.ref 130), some (.int p0), some (.int v1), none, none, none, none, none, none], [.int (rI m4 130 11), .int (rI m4 130 10), .ref 130])) 5 rfl ?_
      refine bnd hD (fun v5 hx hD => ?_)
      refine ax_Wp.jn (F := (82, [some (.ref 130), some (.int p0), some (.int v1), none, none, none, none, none, none], [.int v5, .int (rI m4 130 10), .ref 130])) (hh := stt m4) ?_ (fun kkv5 => ?_)
      · refine ax_Wp.go (f' := (83, [some (.ref 130), some (.int p0), some (.int v1), none, none, none, none, none, none], [.int ((rI m4 130 10) + v5), .ref 130])) 1 rfl ?_
        refine ax_Wp.ptI hD rfl rfl rfl (fun m6 hD => ?_)
        refine ax_Wp.go (f' := (90, [some (.ref 130), some (.int p0), some (.int v1), none, none, none, none, none, none], [.int (rI m6 130 11)])) 2 rfl ?_
        refine ax_Wp.brD hD rfl (fun _ hD => ?_) (fun _ hD => ?_)
        · refine ax_Wp.go (f' := (98, [some (.ref 130), some (.int p0), some (.int v1), none, none, none, none, none, none], [.int (nI 111), .int v1])) 2 rfl ?_
          refine bnd hD (fun v7 hx hD => ?_)
          refine ax_Wp.jn (F := (122, [some (.ref 130), some (.int p0), some (.int v1), none, none, none, none, none, none], [.int v7.1])) (hh := stt v7.2) ?_ (fun kkv7 => ?_)
          · refine ax_Wp.go (f' := (126, [some (.ref 130), some (.int p0), some (.int v1), some (.int v7.1), none, none, none, none, none], [.int (nI 111), .int v1])) 3 rfl ?_
            refine bnd hD (fun v10 hx hD => ?_)
            refine ax_Wp.jn (F := (141, [some (.ref 130), some (.int p0), some (.int v1), some (.int v7.1), none, none, none, none, none], [.int v10.1])) (hh := stt v10.2) ?_ (fun kkv10 => ?_)
            · refine ax_Wp.go (f' := (146, [some (.ref 130), some (.int p0), some (.int v1), some (.int v7.1), some (.int v10.1), none, none, none, none], [.int (nI 111), .int v1])) 3 rfl ?_
              refine bnd hD (fun v12 hx hD => ?_)
              refine ax_Wp.jn (F := (163, [some (.ref 130), some (.int p0), some (.int v1), some (.int v7.1), none, none, none, none, none], [.int v12.1])) (hh := stt v12.2) ?_ (fun kkv12 => ?_)
              · refine ax_Wp.go (f' := (166, [some (.ref 130), some (.int p0), some (.int v1), some (.int v7.1), none, some (.int v12.1), none, none, none], [.int p0])) 2 rfl ?_
                refine ax_Wp.brD hD rfl (fun _ hD => ?_) (fun _ hD => ?_)
                · refine ax_Wp.go (f' := (170, [some (.ref 130), some (.int p0), some (.int v1), some (.int v7.1), none, some (.int v12.1), none, none, none], [.int (nI 1)])) 1 rfl ?_
                  obtain rfl := inj hD
                  exact ax_Wp.ret rfl ⟨rfl, rfl⟩
                · refine ax_Wp.go (f' := (174, [some (.ref 130), some (.int p0), some (.int v1), some (.int v7.1), none, some (.int v12.1), none, none, none], [.int (nI 115), .int v1])) 2 rfl ?_
                  refine bnd hD (fun v15 hx hD => ?_)
                  refine ax_Wp.jn (F := (223, [some (.ref 130), none, some (.int v1), some (.int v7.1), none, some (.int v12.1), none, none, none], [.int v15])) (hh := stt v12.2) ?_ (fun kkv15 => ?_)
                  · refine ax_Wp.go (f' := (227, [some (.ref 130), none, some (.int v1), some (.int v7.1), none, some (.int v12.1), some (.int v15), none, none], [.int v15])) 2 rfl ?_
                    refine bnd hD (fun v19 hx hD => ?_)
                    refine ax_Wp.jn (F := (298, [some (.ref 130), none, none, none, none, none, some (.int v15), none, none], [])) (hh := stt v19) ?_ (fun kkv19 => ?_)
                    · refine ax_Wp.go (f' := (300, [some (.ref 130), none, none, none, none, none, some (.int v15), none, none], [.int v15])) 1 rfl ?_
                      refine ax_Wp.retB hD rfl (fun b28 hD => ?_)
                      obtain rfl := inj hD
                      exact ⟨rfl, rfl⟩
                    clear hD
                    have hD := hx
                    clear hx
                    refine ax_Wp.brD hD rfl (fun _ hD => ?_) (fun _ hD => ?_)
                    · obtain rfl := inj hD
                      exact ax_Wp.dead kkv19 ⟨.inl rfl, ⟨.inl rfl, ⟨.inr ⟨rfl, trivial⟩, ⟨.inr ⟨rfl, trivial⟩, ⟨.inl rfl, ⟨.inr ⟨rfl, trivial⟩, ⟨.inl rfl, ⟨.inl rfl, ⟨.inl rfl, trivial⟩⟩⟩⟩⟩⟩⟩⟩⟩
                    · refine ax_Wp.go (f' := (233, [some (.ref 130), none, some (.int v1), some (.int v7.1), none, some (.int v12.1), some (.int v15), none, none], [.int (nI 116), .int v1])) 2 rfl ?_
                      refine bnd hD (fun v20 hx hD => ?_)
                      refine ax_Wp.jn (F := (250, [some (.ref 130), none, some (.int v1), some (.int v7.1), none, some (.int v12.1), some (.int v15), none, none], [.int v20.1])) (hh := stt v20.2) ?_ (fun kkv20 => ?_)
                      · refine ax_Wp.go (f' := (255, [some (.ref 130), none, some (.int v1), some (.int v7.1), none, some (.int v12.1), some (.int v15), some (.int v20.1), none], [.int (nI 114), .int v1])) 3 rfl ?_
                        refine bnd hD (fun v22 hx hD => ?_)
                        refine ax_Wp.jn (F := (266, [some (.ref 130), none, some (.int v1), some (.int v7.1), none, some (.int v12.1), some (.int v15), none, none], [.int v22.1])) (hh := stt v22.2) ?_ (fun kkv22 => ?_)
                        · refine ax_Wp.go (f' := (271, [some (.ref 130), none, some (.int v1), some (.int v7.1), none, some (.int v12.1), some (.int v15), none, some (.int v22.1)], [.int (nI 111), .int v1])) 3 rfl ?_
                          refine ax_Wp.brD hD rfl (fun _ hD => ?_) (fun _ hD => ?_)
                          · refine ax_Wp.go (f' := (286, [some (.ref 130), none, some (.int v1), some (.int v7.1), none, some (.int v12.1), some (.int v15), none, some (.int v22.1)], [.int (nI 111), .int v1, .int (nI 2), .int v7.1, .ref 130])) 5 rfl ?_
                            refine bnd hD (fun v24 hx hD => ?_)
                            refine ax_Wp.jn (F := (295, [some (.ref 130), none, none, none, none, none, some (.int v15), none, none], [.int v24, .int (nI 2), .int v7.1, .ref 130])) (hh := stt v22.2) ?_ (fun kkv24 => ?_)
                            · refine bnd hD (fun r25 hx hD => ?_)
                              refine ax_Wp.callE (f' := (298, [some (.ref 130), none, none, none, none, none, some (.int v15), none, none], [])) rfl rfl (w_151 (d := d + 4) hx) rfl ?_
                              obtain rfl := inj hD
                              exact kkv19
                            clear hD
                            have hD := hx
                            clear hx
                            refine ax_Wp.brD hD rfl (fun _ hD => ?_) (fun _ hD => ?_)
                            · refine ax_Wp.go (f' := (295, [some (.ref 130), none, some (.int v1), some (.int v7.1), none, some (.int v12.1), some (.int v15), none, some (.int v22.1)], [.int v12.1, .int (nI 2), .int v7.1, .ref 130])) 2 rfl ?_
                              obtain rfl := inj hD
                              exact ax_Wp.dead kkv24 ⟨.inl rfl, ⟨.inl rfl, ⟨.inr ⟨rfl, trivial⟩, ⟨.inr ⟨rfl, trivial⟩, ⟨.inl rfl, ⟨.inr ⟨rfl, trivial⟩, ⟨.inl rfl, ⟨.inl rfl, ⟨.inr ⟨rfl, trivial⟩, trivial⟩⟩⟩⟩⟩⟩⟩⟩⟩
                            · refine ax_Wp.go (f' := (295, [some (.ref 130), none, some (.int v1), some (.int v7.1), none, some (.int v12.1), some (.int v15), none, some (.int v22.1)], [.int (-1), .int (nI 2), .int v7.1, .ref 130])) 1 rfl ?_
                              obtain rfl := inj hD
                              exact ax_Wp.dead kkv24 ⟨.inl rfl, ⟨.inl rfl, ⟨.inr ⟨rfl, trivial⟩, ⟨.inr ⟨rfl, trivial⟩, ⟨.inl rfl, ⟨.inr ⟨rfl, trivial⟩, ⟨.inl rfl, ⟨.inl rfl, ⟨.inr ⟨rfl, trivial⟩, trivial⟩⟩⟩⟩⟩⟩⟩⟩⟩
                          · refine ax_Wp.go (f' := (277, [some (.ref 130), none, some (.int v1), some (.int v7.1), none, some (.int v12.1), some (.int v15), none, some (.int v22.1)], [.int (nI 115), .int v1])) 2 rfl ?_
                            refine ax_Wp.brD hD rfl (fun _ hD => ?_) (fun _ hD => ?_)
                            · refine ax_Wp.go (f' := (286, [some (.ref 130), none, some (.int v1), some (.int v7.1), none, some (.int v12.1), some (.int v15), none, some (.int v22.1)], [.int (nI 111), .int v1, .int (nI 2), .int v7.1, .ref 130])) 5 rfl ?_
                              refine bnd hD (fun v26 hx hD => ?_)
                              refine ax_Wp.jn (F := (295, [some (.ref 130), none, none, none, none, none, some (.int v15), none, none], [.int v26, .int (nI 2), .int v7.1, .ref 130])) (hh := stt v22.2) ?_ (fun kkv26 => ?_)
                              · refine bnd hD (fun r27 hx hD => ?_)
                                refine ax_Wp.callE (f' := (298, [some (.ref 130), none, none, none, none, none, some (.int v15), none, none], [])) rfl rfl (w_151 (d := d + 4) hx) rfl ?_
                                obtain rfl := inj hD
                                exact kkv19
                              clear hD
                              have hD := hx
                              clear hx
                              refine ax_Wp.brD hD rfl (fun _ hD => ?_) (fun _ hD => ?_)
                              · refine ax_Wp.go (f' := (295, [some (.ref 130), none, some (.int v1), some (.int v7.1), none, some (.int v12.1), some (.int v15), none, some (.int v22.1)], [.int v12.1, .int (nI 2), .int v7.1, .ref 130])) 2 rfl ?_
                                obtain rfl := inj hD
                                exact ax_Wp.dead kkv26 ⟨.inl rfl, ⟨.inl rfl, ⟨.inr ⟨rfl, trivial⟩, ⟨.inr ⟨rfl, trivial⟩, ⟨.inl rfl, ⟨.inr ⟨rfl, trivial⟩, ⟨.inl rfl, ⟨.inl rfl, ⟨.inr ⟨rfl, trivial⟩, trivial⟩⟩⟩⟩⟩⟩⟩⟩⟩
                              · refine ax_Wp.go (f' := (295, [some (.ref 130), none, some (.int v1), some (.int v7.1), none, some (.int v12.1), some (.int v15), none, some (.int v22.1)], [.int (-1), .int (nI 2), .int v7.1, .ref 130])) 1 rfl ?_
                                obtain rfl := inj hD
                                exact ax_Wp.dead kkv26 ⟨.inl rfl, ⟨.inl rfl, ⟨.inr ⟨rfl, trivial⟩, ⟨.inr ⟨rfl, trivial⟩, ⟨.inl rfl, ⟨.inr ⟨rfl, trivial⟩, ⟨.inl rfl, ⟨.inl rfl, ⟨.inr ⟨rfl, trivial⟩, trivial⟩⟩⟩⟩⟩⟩⟩⟩⟩
                            · obtain rfl := inj hD
                              exact ax_Wp.dead kkv19 ⟨.inl rfl, ⟨.inl rfl, ⟨.inr ⟨rfl, trivial⟩, ⟨.inr ⟨rfl, trivial⟩, ⟨.inl rfl, ⟨.inr ⟨rfl, trivial⟩, ⟨.inl rfl, ⟨.inl rfl, ⟨.inr ⟨rfl, trivial⟩, trivial⟩⟩⟩⟩⟩⟩⟩⟩⟩
                        clear hD
                        have hD := hx
                        clear hx
                        refine ax_Wp.brD hD rfl (fun _ hD => ?_) (fun _ hD => ?_)
                        · refine ax_Wp.go (f' := (259, [some (.ref 130), none, some (.int v1), some (.int v7.1), none, some (.int v12.1), some (.int v15), some (.int v20.1), none], [.ref 130])) 1 rfl ?_
                          refine bnd hD (fun r23 hx hD => ?_)
                          refine ax_Wp.callE (f' := (262, [some (.ref 130), none, some (.int v1), some (.int v7.1), none, some (.int v12.1), some (.int v15), some (.int v20.1), none], [])) rfl rfl (w_176 (d := d + 0) hx) rfl ?_
                          refine ax_Wp.go (f' := (266, [some (.ref 130), none, some (.int v1), some (.int v7.1), none, some (.int v12.1), some (.int v15), some (.int v20.1), none], [.int r23.1])) 1 rfl ?_
                          obtain rfl := inj hD
                          exact ax_Wp.dead kkv22 ⟨.inl rfl, ⟨.inl rfl, ⟨.inl rfl, ⟨.inl rfl, ⟨.inl rfl, ⟨.inl rfl, ⟨.inl rfl, ⟨.inr ⟨rfl, trivial⟩, ⟨.inl rfl, trivial⟩⟩⟩⟩⟩⟩⟩⟩⟩
                        · refine ax_Wp.go (f' := (266, [some (.ref 130), none, some (.int v1), some (.int v7.1), none, some (.int v12.1), some (.int v15), some (.int v20.1), none], [.int (nI 0)])) 1 rfl ?_
                          obtain rfl := inj hD
                          exact ax_Wp.dead kkv22 ⟨.inl rfl, ⟨.inl rfl, ⟨.inl rfl, ⟨.inl rfl, ⟨.inl rfl, ⟨.inl rfl, ⟨.inl rfl, ⟨.inr ⟨rfl, trivial⟩, ⟨.inl rfl, trivial⟩⟩⟩⟩⟩⟩⟩⟩⟩
                      clear hD
                      have hD := hx
                      clear hx
                      refine ax_Wp.brD hD rfl (fun _ hD => ?_) (fun _ hD => ?_)
                      · refine ax_Wp.go (f' := (239, [some (.ref 130), none, some (.int v1), some (.int v7.1), none, some (.int v12.1), some (.int v15), none, none], [.int v12.1, .ref 130])) 2 rfl ?_
                        refine bnd hD (fun r21 hx hD => ?_)
                        refine ax_Wp.callE (f' := (242, [some (.ref 130), none, some (.int v1), some (.int v7.1), none, some (.int v12.1), some (.int v15), none, none], [])) rfl rfl (w_177 (d := d + 3) hx) rfl ?_
                        refine ax_Wp.brD hD rfl (fun _ hD => ?_) (fun _ hD => ?_)
                        · refine ax_Wp.go (f' := (250, [some (.ref 130), none, some (.int v1), some (.int v7.1), none, some (.int v12.1), some (.int v15), none, none], [.int (nI 0)])) 1 rfl ?_
                          obtain rfl := inj hD
                          exact kkv20
                        · refine ax_Wp.go (f' := (250, [some (.ref 130), none, some (.int v1), some (.int v7.1), none, some (.int v12.1), some (.int v15), none, none], [.int (nI 1)])) 2 rfl ?_
                          obtain rfl := inj hD
                          exact kkv20
                      · refine ax_Wp.go (f' := (250, [some (.ref 130), none, some (.int v1), some (.int v7.1), none, some (.int v12.1), some (.int v15), none, none], [.int (nI 0)])) 1 rfl ?_
                        obtain rfl := inj hD
                        exact kkv20
                  clear hD
                  have hD := hx
                  clear hx
                  refine ax_Wp.brD hD rfl (fun _ hD => ?_) (fun _ hD => ?_)
                  · refine ax_Wp.go (f' := (223, [some (.ref 130), some (.int p0), some (.int v1), some (.int v7.1), none, some (.int v12.1), none, none, none], [.int (nI 1)])) 2 rfl ?_
                    obtain rfl := inj hD
                    exact ax_Wp.dead kkv15 ⟨.inl rfl, ⟨.inr ⟨rfl, trivial⟩, ⟨.inl rfl, ⟨.inl rfl, ⟨.inl rfl, ⟨.inl rfl, ⟨.inl rfl, ⟨.inl rfl, ⟨.inl rfl, trivial⟩⟩⟩⟩⟩⟩⟩⟩⟩
                  · refine ax_Wp.go (f' := (180, [some (.ref 130), some (.int p0), some (.int v1), some (.int v7.1), none, some (.int v12.1), none, none, none], [.int (nI 114), .int v1])) 2 rfl ?_
                    refine ax_Wp.brD hD rfl (fun _ hD => ?_) (fun _ hD => ?_)
                    · refine ax_Wp.go (f' := (184, [some (.ref 130), some (.int p0), some (.int v1), some (.int v7.1), none, some (.int v12.1), none, none, none], [.ref 130])) 1 rfl ?_
                      refine bnd hD (fun x16 hx hD => ?_)
                      refine ax_Wp.callE (f' := (187, [some (.ref 130), some (.int p0), some (.int v1), some (.int v7.1), none, some (.int v12.1), none, none, none], [])) rfl rfl (w_168 (d := d + 1) hx) rfl ?_
                      refine ax_Wp.brD hD rfl (fun _ hD => ?_) (fun _ hD => ?_)
                      · refine ax_Wp.go (f' := (223, [some (.ref 130), some (.int p0), some (.int v1), some (.int v7.1), none, some (.int v12.1), none, none, none], [.int (nI 1)])) 3 rfl ?_
                        obtain rfl := inj hD
                        exact ax_Wp.dead kkv15 ⟨.inl rfl, ⟨.inr ⟨rfl, trivial⟩, ⟨.inl rfl, ⟨.inl rfl, ⟨.inl rfl, ⟨.inl rfl, ⟨.inl rfl, ⟨.inl rfl, ⟨.inl rfl, trivial⟩⟩⟩⟩⟩⟩⟩⟩⟩
                      · refine ax_Wp.go (f' := (223, [some (.ref 130), some (.int p0), some (.int v1), some (.int v7.1), none, some (.int v12.1), none, none, none], [.int (nI 0)])) 1 rfl ?_
                        obtain rfl := inj hD
                        exact ax_Wp.dead kkv15 ⟨.inl rfl, ⟨.inr ⟨rfl, trivial⟩, ⟨.inl rfl, ⟨.inl rfl, ⟨.inl rfl, ⟨.inl rfl, ⟨.inl rfl, ⟨.inl rfl, ⟨.inl rfl, trivial⟩⟩⟩⟩⟩⟩⟩⟩⟩
                    · refine ax_Wp.go (f' := (196, [some (.ref 130), some (.int p0), some (.int v1), some (.int v7.1), none, some (.int v12.1), none, none, none], [.int v12.1, .ref 130])) 2 rfl ?_
                      refine bnd hD (fun x17 hx hD => ?_)
                      refine ax_Wp.callE (f' := (199, [some (.ref 130), some (.int p0), some (.int v1), some (.int v7.1), none, some (.int v12.1), none, none, none], [])) rfl rfl (w_147 (d := d + 3) hx) rfl ?_
                      refine ax_Wp.brD hD rfl (fun _ hD => ?_) (fun _ hD => ?_)
                      · refine ax_Wp.go (f' := (223, [some (.ref 130), some (.int p0), some (.int v1), some (.int v7.1), none, some (.int v12.1), none, none, none], [.int (nI 0)])) 1 rfl ?_
                        obtain rfl := inj hD
                        exact ax_Wp.dead kkv15 ⟨.inl rfl, ⟨.inr ⟨rfl, trivial⟩, ⟨.inl rfl, ⟨.inl rfl, ⟨.inl rfl, ⟨.inl rfl, ⟨.inl rfl, ⟨.inl rfl, ⟨.inl rfl, trivial⟩⟩⟩⟩⟩⟩⟩⟩⟩
                      · refine ax_Wp.go (f' := (205, [some (.ref 130), some (.int p0), some (.int v1), some (.int v7.1), none, some (.int v12.1), none, none, none], [.int (nI 116), .int v1])) 2 rfl ?_
                        refine ax_Wp.brD hD rfl (fun _ hD => ?_) (fun _ hD => ?_)
                        · refine ax_Wp.go (f' := (223, [some (.ref 130), some (.int p0), some (.int v1), some (.int v7.1), none, some (.int v12.1), none, none, none], [.int (nI 1)])) 2 rfl ?_
                          obtain rfl := inj hD
                          exact ax_Wp.dead kkv15 ⟨.inl rfl, ⟨.inr ⟨rfl, trivial⟩, ⟨.inl rfl, ⟨.inl rfl, ⟨.inl rfl, ⟨.inl rfl, ⟨.inl rfl, ⟨.inl rfl, ⟨.inl rfl, trivial⟩⟩⟩⟩⟩⟩⟩⟩⟩
                        · refine ax_Wp.go (f' := (212, [some (.ref 130), some (.int p0), some (.int v1), some (.int v7.1), none, some (.int v12.1), none, none, none], [.int v12.1, .int v7.1, .ref 130])) 3 rfl ?_
                          refine bnd hD (fun x18 hx hD => ?_)
                          refine ax_Wp.callE (f' := (215, [some (.ref 130), some (.int p0), some (.int v1), some (.int v7.1), none, some (.int v12.1), none, none, none], [])) rfl rfl (w_169 (d := d + 0) hx) rfl ?_
                          refine ax_Wp.brD hD rfl (fun _ hD => ?_) (fun _ hD => ?_)
                          · refine ax_Wp.go (f' := (223, [some (.ref 130), some (.int p0), some (.int v1), some (.int v7.1), none, some (.int v12.1), none, none, none], [.int (nI 1)])) 2 rfl ?_
                            obtain rfl := inj hD
                            exact ax_Wp.dead kkv15 ⟨.inl rfl, ⟨.inr ⟨rfl, trivial⟩, ⟨.inl rfl, ⟨.inl rfl, ⟨.inl rfl, ⟨.inl rfl, ⟨.inl rfl, ⟨.inl rfl, ⟨.inl rfl, trivial⟩⟩⟩⟩⟩⟩⟩⟩⟩
                          · refine ax_Wp.go (f' := (223, [some (.ref 130), some (.int p0), some (.int v1), some (.int v7.1), none, some (.int v12.1), none, none, none], [.int (nI 0)])) 1 rfl ?_
                            obtain rfl := inj hD
                            exact ax_Wp.dead kkv15 ⟨.inl rfl, ⟨.inr ⟨rfl, trivial⟩, ⟨.inl rfl, ⟨.inl rfl, ⟨.inl rfl, ⟨.inl rfl, ⟨.inl rfl, ⟨.inl rfl, ⟨.inl rfl, trivial⟩⟩⟩⟩⟩⟩⟩⟩⟩
              clear hD
              have hD := hx
              clear hx
              refine ax_Wp.brD hD rfl (fun _ hD => ?_) (fun _ hD => ?_)
              · refine ax_Wp.go (f' := (156, [some (.ref 130), some (.int p0), some (.int v1), some (.int v7.1), some (.int v10.1), none, none, none, none], [.ref 130])) 1 rfl ?_
                refine bnd hD (fun r13 hx hD => ?_)
                refine ax_Wp.callE (f' := (159, [some (.ref 130), some (.int p0), some (.int v1), some (.int v7.1), some (.int v10.1), none, none, none, none], [])) rfl rfl (w_191 (d := d + 2) hx) rfl ?_
                refine ax_Wp.go (f' := (163, [some (.ref 130), some (.int p0), some (.int v1), some (.int v7.1), some (.int v10.1), none, none, none, none], [.int r13.1])) 1 rfl ?_
                obtain rfl := inj hD
                exact ax_Wp.dead kkv12 ⟨.inl rfl, ⟨.inl rfl, ⟨.inl rfl, ⟨.inl rfl, ⟨.inr ⟨rfl, trivial⟩, ⟨.inl rfl, ⟨.inl rfl, ⟨.inl rfl, ⟨.inl rfl, trivial⟩⟩⟩⟩⟩⟩⟩⟩⟩
              · refine ax_Wp.go (f' := (152, [some (.ref 130), some (.int p0), some (.int v1), some (.int v7.1), some (.int v10.1), none, none, none, none], [.int (nI 116), .int v1])) 2 rfl ?_
                refine ax_Wp.brD hD rfl (fun _ hD => ?_) (fun _ hD => ?_)
                · refine ax_Wp.go (f' := (156, [some (.ref 130), some (.int p0), some (.int v1), some (.int v7.1), some (.int v10.1), none, none, none, none], [.ref 130])) 1 rfl ?_
                  refine bnd hD (fun r14 hx hD => ?_)
                  refine ax_Wp.callE (f' := (159, [some (.ref 130), some (.int p0), some (.int v1), some (.int v7.1), some (.int v10.1), none, none, none, none], [])) rfl rfl (w_191 (d := d + 2) hx) rfl ?_
                  refine ax_Wp.go (f' := (163, [some (.ref 130), some (.int p0), some (.int v1), some (.int v7.1), some (.int v10.1), none, none, none, none], [.int r14.1])) 1 rfl ?_
                  obtain rfl := inj hD
                  exact ax_Wp.dead kkv12 ⟨.inl rfl, ⟨.inl rfl, ⟨.inl rfl, ⟨.inl rfl, ⟨.inr ⟨rfl, trivial⟩, ⟨.inl rfl, ⟨.inl rfl, ⟨.inl rfl, ⟨.inl rfl, trivial⟩⟩⟩⟩⟩⟩⟩⟩⟩
                · refine ax_Wp.go (f' := (163, [some (.ref 130), some (.int p0), some (.int v1), some (.int v7.1), some (.int v10.1), none, none, none, none], [.int (nI 0)])) 1 rfl ?_
                  obtain rfl := inj hD
                  exact ax_Wp.dead kkv12 ⟨.inl rfl, ⟨.inl rfl, ⟨.inl rfl, ⟨.inl rfl, ⟨.inr ⟨rfl, trivial⟩, ⟨.inl rfl, ⟨.inl rfl, ⟨.inl rfl, ⟨.inl rfl, trivial⟩⟩⟩⟩⟩⟩⟩⟩⟩
            clear hD
            have hD := hx
            clear hx
            refine ax_Wp.brD hD rfl (fun _ hD => ?_) (fun _ hD => ?_)
            · refine ax_Wp.go (f' := (134, [some (.ref 130), some (.int p0), some (.int v1), some (.int v7.1), none, none, none, none, none], [.int (nI 62), .int (nI 62), .ref 130])) 3 rfl ?_
              refine bnd hD (fun r11 hx hD => ?_)
              refine ax_Wp.callE (f' := (137, [some (.ref 130), some (.int p0), some (.int v1), some (.int v7.1), none, none, none, none, none], [])) rfl rfl (w_190 (d := d + 3) hx) rfl ?_
              refine ax_Wp.go (f' := (141, [some (.ref 130), some (.int p0), some (.int v1), some (.int v7.1), none, none, none, none, none], [.int r11.1])) 1 rfl ?_
              obtain rfl := inj hD
              exact kkv10
            · refine ax_Wp.go (f' := (141, [some (.ref 130), some (.int p0), some (.int v1), some (.int v7.1), none, none, none, none, none], [.int (nI 0)])) 1 rfl ?_
              obtain rfl := inj hD
              exact kkv10
          clear hD
          have hD := hx
          clear hx
          refine ax_Wp.brD hD rfl (fun _ hD => ?_) (fun _ hD => ?_)
          · refine ax_Wp.go (f' := (112, [some (.ref 130), some (.int p0), some (.int v1), none, none, none, none, none, none], [.int (nI 51), .int (nI 48), .ref 130])) 3 rfl ?_
            refine bnd hD (fun r8 hx hD => ?_)
            refine ax_Wp.callE (f' := (115, [some (.ref 130), some (.int p0), some (.int v1), none, none, none, none, none, none], [])) rfl rfl (w_190 (d := d + 3) hx) rfl ?_
            refine ax_Wp.go (f' := (122, [some (.ref 130), some (.int p0), some (.int v1), none, none, none, none, none, none], [.int (r8.1 - (nI 48))])) 3 rfl ?_
            obtain rfl := inj hD
            exact kkv7
          · refine ax_Wp.go (f' := (104, [some (.ref 130), some (.int p0), some (.int v1), none, none, none, none, none, none], [.int (nI 115), .int v1])) 2 rfl ?_
            refine ax_Wp.brD hD rfl (fun _ hD => ?_) (fun _ hD => ?_)
            · refine ax_Wp.go (f' := (112, [some (.ref 130), some (.int p0), some (.int v1), none, none, none, none, none, none], [.int (nI 51), .int (nI 48), .ref 130])) 3 rfl ?_
              refine bnd hD (fun r9 hx hD => ?_)
              refine ax_Wp.callE (f' := (115, [some (.ref 130), some (.int p0), some (.int v1), none, none, none, none, none, none], [])) rfl rfl (w_190 (d := d + 3) hx) rfl ?_
              refine ax_Wp.go (f' := (122, [some (.ref 130), some (.int p0), some (.int v1), none, none, none, none, none, none], [.int (r9.1 - (nI 48))])) 3 rfl ?_
              obtain rfl := inj hD
              exact kkv7
            · refine ax_Wp.go (f' := (122, [some (.ref 130), some (.int p0), some (.int v1), none, none, none, none, none, none], [.int (nI 0)])) 1 rfl ?_
              obtain rfl := inj hD
              exact kkv7
        · refine ax_Wp.go (f' := (94, [some (.ref 130), some (.int p0), some (.int v1), none, none, none, none, none, none], [.int (nI 1)])) 1 rfl ?_
          obtain rfl := inj hD
          exact ax_Wp.ret rfl ⟨rfl, rfl⟩
      clear hD
      have hD := hx
      clear hx
      refine ax_Wp.brD hD rfl (fun _ hD => ?_) (fun _ hD => ?_)
      · refine ax_Wp.go (f' := (82, [some (.ref 130), some (.int p0), some (.int v1), none, none, none, none, none, none], [.int (nI 1), .int (rI m4 130 10), .ref 130])) 1 rfl ?_
        obtain rfl := inj hD
        exact kkv5
      · refine ax_Wp.go (f' := (82, [some (.ref 130), some (.int p0), some (.int v1), none, none, none, none, none, none], [.int (nI 0), .int (rI m4 130 10), .ref 130])) 2 rfl ?_
        obtain rfl := inj hD
        exact kkv5
    clear hD
    have hD := hx
    clear hx
    refine ax_Wp.brD hD rfl (fun _ hD => ?_) (fun _ hD => ?_)
    · refine ax_Wp.go (f' := (36, [some (.ref 130), some (.int p0), some (.int v1), none, none, none, none, none, none], [.int (nI 111), .int v1, .ref 130])) 2 rfl ?_
      refine ax_Wp.brD hD rfl (fun _ hD => ?_) (fun _ hD => ?_)
      · refine ax_Wp.go (f' := (62, [some (.ref 130), some (.int p0), some (.int v1), none, none, none, none, none, none], [.int (nI 0), .ref 130])) 1 rfl ?_
        obtain rfl := inj hD
        exact kkv3
      · refine ax_Wp.go (f' := (42, [some (.ref 130), some (.int p0), some (.int v1), none, none, none, none, none, none], [.int (nI 115), .int v1, .ref 130])) 2 rfl ?_
        refine ax_Wp.brD hD rfl (fun _ hD => ?_) (fun _ hD => ?_)
        · refine ax_Wp.go (f' := (62, [some (.ref 130), some (.int p0), some (.int v1), none, none, none, none, none, none], [.int (nI 0), .ref 130])) 1 rfl ?_
          obtain rfl := inj hD
          exact kkv3
        · refine ax_Wp.go (f' := (48, [some (.ref 130), some (.int p0), some (.int v1), none, none, none, none, none, none], [.int (nI 116), .int v1, .ref 130])) 2 rfl ?_
          refine ax_Wp.brD hD rfl (fun _ hD => ?_) (fun _ hD => ?_)
          · refine ax_Wp.go (f' := (62, [some (.ref 130), some (.int p0), some (.int v1), none, none, none, none, none, none], [.int (nI 0), .ref 130])) 1 rfl ?_
            obtain rfl := inj hD
            exact kkv3
          · refine ax_Wp.go (f' := (54, [some (.ref 130), some (.int p0), some (.int v1), none, none, none, none, none, none], [.int (nI 114), .int v1, .ref 130])) 2 rfl ?_
            refine ax_Wp.brD hD rfl (fun _ hD => ?_) (fun _ hD => ?_)
            · refine ax_Wp.go (f' := (62, [some (.ref 130), some (.int p0), some (.int v1), none, none, none, none, none, none], [.int (nI 0), .ref 130])) 1 rfl ?_
              obtain rfl := inj hD
              exact kkv3
            · refine ax_Wp.go (f' := (62, [some (.ref 130), some (.int p0), some (.int v1), none, none, none, none, none, none], [.int (nI 1), .ref 130])) 2 rfl ?_
              obtain rfl := inj hD
              exact kkv3
    · refine ax_Wp.go (f' := (62, [some (.ref 130), some (.int p0), some (.int v1), none, none, none, none, none, none], [.int (nI 1), .ref 130])) 2 rfl ?_
      obtain rfl := inj hD
      exact kkv3
  clear hD
  have hD := hx
  clear hx
  refine ax_Wp.brD hD rfl (fun _ hD => ?_) (fun _ hD => ?_)
  · refine ax_Wp.go (f' := (24, [some (.ref 130), some (.int p0), none, none, none, none, none, none, none], [.int (nI 0)])) 1 rfl ?_
    obtain rfl := inj hD
    exact kkv1
  · refine ax_Wp.go (f' := (19, [some (.ref 130), some (.int p0), none, none, none, none, none, none, none], [.int (rI m 130 10), .ref 134])) 4 rfl ?_
    refine ax_Wp.rdI hD rfl rfl rfl (fun x2 hD => ?_)
    refine ax_Wp.go (f' := (24, [some (.ref 130), some (.int p0), none, none, none, none, none, none, none], [.int x2])) 1 rfl ?_
    obtain rfl := inj hD
    exact kkv1
