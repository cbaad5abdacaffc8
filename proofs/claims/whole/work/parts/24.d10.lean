/-! WHAT METHODS DO, printed of their bytecode: 10 -/
def D184 (m : dM) (p0 : Int32) : Option (Int32 × dM) := (fI m 130 7 (nI 0)).bind fun (m1 : dM) => (D144 p0 (nI 1) (nI 60)).bind fun (x2 : Int32) => if x2 = (nI 0) then (D143 m1 (nI 1)).bind fun (r3 : Int32 × dM) => some (r3.1, r3.2) else (D149 m1).bind fun (r4 : dM) => (sI r4 131 299 (nI 167) p0).bind fun (m5 : dM) => some (rI r4 131 167, m5)
set_option maxRecDepth 20000 in
theorem w_184 {X : Nat × (Nat → Int32)} {d : Nat} {m : dM} {p0 : Int32} {r : Int32 × dM} (hD : D184 m p0 = some r) : ax_Ev X (d + 2) 184 [.ref 130, .int p0] (stt m) (.inl (some (.int r.1))) (stt r.2) := by
  unfold D184 at hD
  show ax_Wp X (d + 1 + 1) 184 (0, [some (.ref 130), some (.int p0), none], []) (stt m) _
  refine ax_Wp.go (f' := (2, [some (.ref 130), some (.int p0), none], [.int (nI 0), .ref 130])) 2 rfl ?_
  refine ax_Wp.ptI hD rfl rfl rfl (fun m1 hD => ?_)
  refine ax_Wp.go (f' := (9, [some (.ref 130), some (.int p0), none], [.int (nI 60), .int (nI 1), .int p0])) 3 rfl ?_
  refine bnd hD (fun x2 hx hD => ?_)
  refine ax_Wp.callE (f' := (12, [some (.ref 130), some (.int p0), none], [])) rfl rfl (w_144 (d := d + 0) hx) rfl ?_
  refine ax_Wp.brD hD rfl (fun _ hD => ?_) (fun _ hD => ?_)
  · refine ax_Wp.go (f' := (17, [some (.ref 130), some (.int p0), none], [.int (nI 1), .ref 130])) 2 rfl ?_
    refine bnd hD (fun r3 hx hD => ?_)
    refine ax_Wp.callE (f' := (20, [some (.ref 130), some (.int p0), none], [])) rfl rfl (w_143 (d := d + 0) hx) rfl ?_
    obtain rfl := inj hD
    exact ax_Wp.ret rfl ⟨rfl, rfl⟩
  · refine ax_Wp.go (f' := (22, [some (.ref 130), some (.int p0), none], [.ref 130])) 1 rfl ?_
    refine bnd hD (fun r4 hx hD => ?_)
    refine ax_Wp.callE (f' := (25, [some (.ref 130), some (.int p0), none], [])) rfl rfl (w_149 (d := d + 0) hx) rfl ?_
    refine ax_Wp.go (f' := (42, [some (.ref 130), some (.int p0), some (.int (rI r4 131 167))], [.int p0, .int (nI 167), .ref 131])) 9 rfl ?_
    refine ax_Wp.wrI hD rfl rfl (fun _ => rfl) (fun m5 hD => ?_)
    refine ax_Wp.go (f' := (44, [some (.ref 130), some (.int p0), some (.int (rI r4 131 167))], [.int (rI r4 131 167)])) 1 rfl ?_
    obtain rfl := inj hD
    exact ax_Wp.ret rfl ⟨rfl, rfl⟩
def D166 (m : dM) (p0 : Int32) (p1 : Int32) : Option (Int32) := Option.bind (lp (β := Int32) 3000 (fun (s1 : Int32 × Int32) => if (rI m 131 174) ≤ s1.2 then some (.inr s1.1) else (gI m 131 299 ((nI 175) + ((nI 2) * s1.2))).bind fun (x3 : Int32) => Option.bind ((if x3 = p0 then (gI m 131 299 (((nI 175) + ((nI 2) * s1.2)) + (nI 1))).bind fun (x5 : Int32) => if x5 = p1 then some (nI 1) else some (nI 0) else some (nI 0)) : Option (Int32)) fun (v4 : Int32) => some (.inl (s1.1 + v4, s1.2 + (nI 1)))) (nI 0, nI 0)) fun (v2 : Int32) => some v2
set_option maxRecDepth 20000 in
theorem w_166 {X : Nat × (Nat → Int32)} {d : Nat} {m : dM} {p0 : Int32} {p1 : Int32} {r : Int32} (hD : D166 m p0 p1 = some r) : ax_Ev X (d + 1) 166 [.ref 130, .int p0, .int p1] (stt m) (.inl (some (.int r))) (stt m) := by
  unfold D166 at hD
  show ax_Wp X (d + 0 + 1) 166 (0, [some (.ref 130), some (.int p0), some (.int p1), none, none], []) (stt m) _
  refine ax_Wp.go (f' := (5, [some (.ref 130), some (.int p0), some (.int p1), some (.int (nI 0)), some (.int (nI 0))], [])) 4 rfl ?_
  refine bnd hD (fun v2 hx hD => ?_)
  refine ax_Wp.jn (F := (68, [some (.ref 130), none, none, some (.int v2), none], [])) (hh := stt m) ?_ (fun kkv2 => ?_)
  · refine ax_Wp.go (f' := (69, [some (.ref 130), none, none, some (.int v2), none], [.int v2])) 1 rfl ?_
    obtain rfl := inj hD
    exact ax_Wp.ret rfl ⟨rfl, rfl⟩
  clear hD
  refine ax_Wp.lpD (fun (s1 : Int32 × Int32) => ((5, [some (.ref 130), some (.int p0), some (.int p1), some (.int s1.1), some (.int s1.2)], []), stt m)) ?_ hx
  clear hx
  intro s1 v hD ks1
  refine ax_Wp.go (f' := (15, [some (.ref 130), some (.int p0), some (.int p1), some (.int s1.1), some (.int s1.2)], [.int (rI m 131 174), .int s1.2])) 5 rfl ?_
  refine ax_Wp.brD hD rfl (fun _ hD => ?_) (fun _ hD => ?_)
  · obtain rfl := inj hD
    obtain rfl := ks1.o
    exact ax_Wp.dead kkv2 ⟨.inl rfl, ⟨.inr ⟨rfl, trivial⟩, ⟨.inr ⟨rfl, trivial⟩, ⟨.inl rfl, ⟨.inr ⟨rfl, trivial⟩, trivial⟩⟩⟩⟩⟩
  · refine ax_Wp.go (f' := (31, [some (.ref 130), some (.int p0), some (.int p1), some (.int s1.1), some (.int s1.2)], [.int ((nI 175) + ((nI 2) * s1.2)), .ref 131, .int s1.1])) 8 rfl ?_
    refine ax_Wp.rdI hD rfl rfl rfl (fun x3 hD => ?_)
    refine ax_Wp.go (f' := (33, [some (.ref 130), some (.int p0), some (.int p1), some (.int s1.1), some (.int s1.2)], [.int p0, .int x3, .int s1.1])) 1 rfl ?_
    refine bnd hD (fun v4 hx hD => ?_)
    refine ax_Wp.jn (F := (60, [some (.ref 130), some (.int p0), some (.int p1), none, some (.int s1.2)], [.int v4, .int s1.1])) (hh := stt m) ?_ (fun kkv4 => ?_)
    · refine ax_Wp.go (f' := (5, [some (.ref 130), some (.int p0), some (.int p1), some (.int (s1.1 + v4)), some (.int (s1.2 + (nI 1)))], [])) 4 rfl ?_
      obtain rfl := inj hD
      exact ks1.i
    clear hD
    have hD := hx
    clear hx
    refine ax_Wp.brD hD rfl (fun _ hD => ?_) (fun _ hD => ?_)
    · refine ax_Wp.go (f' := (50, [some (.ref 130), some (.int p0), some (.int p1), some (.int s1.1), some (.int s1.2)], [.int (((nI 175) + ((nI 2) * s1.2)) + (nI 1)), .ref 131, .int s1.1])) 9 rfl ?_
      refine ax_Wp.rdI hD rfl rfl rfl (fun x5 hD => ?_)
      refine ax_Wp.go (f' := (52, [some (.ref 130), some (.int p0), some (.int p1), some (.int s1.1), some (.int s1.2)], [.int p1, .int x5, .int s1.1])) 1 rfl ?_
      refine ax_Wp.brD hD rfl (fun _ hD => ?_) (fun _ hD => ?_)
      · refine ax_Wp.go (f' := (60, [some (.ref 130), some (.int p0), some (.int p1), some (.int s1.1), some (.int s1.2)], [.int (nI 1), .int s1.1])) 2 rfl ?_
        obtain rfl := inj hD
        exact ax_Wp.dead kkv4 ⟨.inl rfl, ⟨.inl rfl, ⟨.inl rfl, ⟨.inr ⟨rfl, trivial⟩, ⟨.inl rfl, trivial⟩⟩⟩⟩⟩
      · refine ax_Wp.go (f' := (60, [some (.ref 130), some (.int p0), some (.int p1), some (.int s1.1), some (.int s1.2)], [.int (nI 0), .int s1.1])) 1 rfl ?_
        obtain rfl := inj hD
        exact ax_Wp.dead kkv4 ⟨.inl rfl, ⟨.inl rfl, ⟨.inl rfl, ⟨.inr ⟨rfl, trivial⟩, ⟨.inl rfl, trivial⟩⟩⟩⟩⟩
    · refine ax_Wp.go (f' := (60, [some (.ref 130), some (.int p0), some (.int p1), some (.int s1.1), some (.int s1.2)], [.int (nI 0), .int s1.1])) 1 rfl ?_
      obtain rfl := inj hD
      exact ax_Wp.dead kkv4 ⟨.inl rfl, ⟨.inl rfl, ⟨.inl rfl, ⟨.inr ⟨rfl, trivial⟩, ⟨.inl rfl, trivial⟩⟩⟩⟩⟩
def D168 (m : dM) : Option (Int32) := Option.bind ((if (rI m 131 117) ≤ (nI 0) then some (nI 0) else some (nI 1)) : Option (Int32)) fun (v1 : Int32) => Option.bind (lp (β := Int32) 3000 (fun (s2 : Int32 × Int32) => if (rI m 131 117) ≤ s2.2 then some (.inr s2.1) else Option.bind ((if s2.1 = (nI 0) then some (nI 0) else (D152 m s2.2 (nI 4)).bind fun (x5 : Int32) => if x5 = (nI 2) then some (nI 1) else some (nI 0)) : Option (Int32)) fun (v4 : Int32) => some (.inl (v4, s2.2 + (nI 1)))) (v1, nI 0)) fun (v3 : Int32) => Option.bind ((if v3 = (nI 0) then (D162 m).bind fun (x7 : Int32) => (D163 m).bind fun (x8 : Int32) => (D166 m x7 x8).bind fun (x9 : Int32) => if x9 ≤ (nI 2) then if (rI m 131 168) < (rI m 131 167) then some (nI 0) else some (nI 3) else some (nI 2) else some (nI 1)) : Option (Int32)) fun (v6 : Int32) => some v6
set_option maxRecDepth 20000 in
theorem w_168 {X : Nat × (Nat → Int32)} {d : Nat} {m : dM} {r : Int32} (hD : D168 m = some r) : ax_Ev X (d + 4) 168 [.ref 130] (stt m) (.inl (some (.int r))) (stt m) := by
  unfold D168 at hD
  show ax_Wp X (d + 3 + 1) 168 (0, [some (.ref 130), none, none], []) (stt m) _
  refine ax_Wp.go (f' := (7, [some (.ref 130), none, none], [.int (rI m 131 117)])) 4 rfl ?_
  refine bnd hD (fun v1 hx hD => ?_)
  refine ax_Wp.jn (F := (15, [some (.ref 130), none, none], [.int v1])) (hh := stt m) ?_ (fun kkv1 => ?_)
  · refine ax_Wp.go (f' := (18, [some (.ref 130), some (.int v1), some (.int (nI 0))], [])) 3 rfl ?_
    refine bnd hD (fun v3 hx hD => ?_)
    refine ax_Wp.jn (F := (55, [some (.ref 130), some (.int v3), none], [])) (hh := stt m) ?_ (fun kkv3 => ?_)
    · refine ax_Wp.go (f' := (56, [some (.ref 130), some (.int v3), none], [.int v3])) 1 rfl ?_
      refine bnd hD (fun v6 hx hD => ?_)
      refine ax_Wp.jn (F := (107, [some (.ref 130), none, none], [.int v6])) (hh := stt m) ?_ (fun kkv6 => ?_)
      · obtain rfl := inj hD
        exact ax_Wp.ret rfl ⟨rfl, rfl⟩
      clear hD
      have hD := hx
      clear hx
      refine ax_Wp.brD hD rfl (fun _ hD => ?_) (fun _ hD => ?_)
      · refine ax_Wp.go (f' := (65, [some (.ref 130), some (.int v3), none], [.ref 130, .ref 130])) 2 rfl ?_
        refine bnd hD (fun x7 hx hD => ?_)
        refine ax_Wp.callE (f' := (68, [some (.ref 130), some (.int v3), none], [.ref 130])) rfl rfl (w_162 (d := d + 0) hx) rfl ?_
        refine ax_Wp.go (f' := (69, [some (.ref 130), some (.int v3), none], [.ref 130, .int x7, .ref 130])) 1 rfl ?_
        refine bnd hD (fun x8 hx hD => ?_)
        refine ax_Wp.callE (f' := (72, [some (.ref 130), some (.int v3), none], [.int x7, .ref 130])) rfl rfl (w_163 (d := d + 0) hx) rfl ?_
        refine bnd hD (fun x9 hx hD => ?_)
        refine ax_Wp.callE (f' := (75, [some (.ref 130), some (.int v3), none], [])) rfl rfl (w_166 (d := d + 2) hx) rfl ?_
        refine ax_Wp.go (f' := (76, [some (.ref 130), some (.int v3), none], [.int (nI 2), .int x9])) 1 rfl ?_
        refine ax_Wp.brD hD rfl (fun _ hD => ?_) (fun _ hD => ?_)
        · refine ax_Wp.go (f' := (99, [some (.ref 130), some (.int v3), none], [.int (rI m 131 167), .int (rI m 131 168)])) 8 rfl ?_
          refine ax_Wp.brD hD rfl (fun _ hD => ?_) (fun _ hD => ?_)
          · refine ax_Wp.go (f' := (107, [some (.ref 130), some (.int v3), none], [.int (nI 0)])) 1 rfl ?_
            obtain rfl := inj hD
            exact ax_Wp.dead kkv6 ⟨.inl rfl, ⟨.inr ⟨rfl, trivial⟩, ⟨.inl rfl, trivial⟩⟩⟩
          · refine ax_Wp.go (f' := (107, [some (.ref 130), some (.int v3), none], [.int (nI 3)])) 2 rfl ?_
            obtain rfl := inj hD
            exact ax_Wp.dead kkv6 ⟨.inl rfl, ⟨.inr ⟨rfl, trivial⟩, ⟨.inl rfl, trivial⟩⟩⟩
        · refine ax_Wp.go (f' := (107, [some (.ref 130), some (.int v3), none], [.int (nI 2)])) 2 rfl ?_
          obtain rfl := inj hD
          exact ax_Wp.dead kkv6 ⟨.inl rfl, ⟨.inr ⟨rfl, trivial⟩, ⟨.inl rfl, trivial⟩⟩⟩
      · refine ax_Wp.go (f' := (107, [some (.ref 130), some (.int v3), none], [.int (nI 1)])) 2 rfl ?_
        obtain rfl := inj hD
        exact ax_Wp.dead kkv6 ⟨.inl rfl, ⟨.inr ⟨rfl, trivial⟩, ⟨.inl rfl, trivial⟩⟩⟩
    clear hD
    refine ax_Wp.lpD (fun (s2 : Int32 × Int32) => ((18, [some (.ref 130), some (.int s2.1), some (.int s2.2)], []), stt m)) ?_ hx
    clear hx
    intro s2 v hD ks2
    refine ax_Wp.go (f' := (26, [some (.ref 130), some (.int s2.1), some (.int s2.2)], [.int (rI m 131 117), .int s2.2])) 5 rfl ?_
    refine ax_Wp.brD hD rfl (fun _ hD => ?_) (fun _ hD => ?_)
    · obtain rfl := inj hD
      obtain rfl := ks2.o
      exact ax_Wp.dead kkv3 ⟨.inl rfl, ⟨.inl rfl, ⟨.inr ⟨rfl, trivial⟩, trivial⟩⟩⟩
    · refine ax_Wp.go (f' := (30, [some (.ref 130), some (.int s2.1), some (.int s2.2)], [.int s2.1])) 1 rfl ?_
      refine bnd hD (fun v4 hx hD => ?_)
      refine ax_Wp.jn (F := (48, [some (.ref 130), none, some (.int s2.2)], [.int v4])) (hh := stt m) ?_ (fun kkv4 => ?_)
      · refine ax_Wp.go (f' := (18, [some (.ref 130), some (.int v4), some (.int (s2.2 + (nI 1)))], [])) 3 rfl ?_
        obtain rfl := inj hD
        exact ks2.i
      clear hD
      have hD := hx
      clear hx
      refine ax_Wp.brD hD rfl (fun _ hD => ?_) (fun _ hD => ?_)
      · refine ax_Wp.go (f' := (48, [some (.ref 130), some (.int s2.1), some (.int s2.2)], [.int (nI 0)])) 1 rfl ?_
        obtain rfl := inj hD
        exact ax_Wp.dead kkv4 ⟨.inl rfl, ⟨.inr ⟨rfl, trivial⟩, ⟨.inl rfl, trivial⟩⟩⟩
      · refine ax_Wp.go (f' := (36, [some (.ref 130), some (.int s2.1), some (.int s2.2)], [.int (nI 4), .int s2.2, .ref 130])) 3 rfl ?_
        refine bnd hD (fun x5 hx hD => ?_)
        refine ax_Wp.callE (f' := (39, [some (.ref 130), some (.int s2.1), some (.int s2.2)], [])) rfl rfl (w_152 (d := d + 2) hx) rfl ?_
        refine ax_Wp.go (f' := (40, [some (.ref 130), some (.int s2.1), some (.int s2.2)], [.int (nI 2), .int x5])) 1 rfl ?_
        refine ax_Wp.brD hD rfl (fun _ hD => ?_) (fun _ hD => ?_)
        · refine ax_Wp.go (f' := (48, [some (.ref 130), some (.int s2.1), some (.int s2.2)], [.int (nI 1)])) 2 rfl ?_
          obtain rfl := inj hD
          exact ax_Wp.dead kkv4 ⟨.inl rfl, ⟨.inr ⟨rfl, trivial⟩, ⟨.inl rfl, trivial⟩⟩⟩
        · refine ax_Wp.go (f' := (48, [some (.ref 130), some (.int s2.1), some (.int s2.2)], [.int (nI 0)])) 1 rfl ?_
          obtain rfl := inj hD
          exact ax_Wp.dead kkv4 ⟨.inl rfl, ⟨.inr ⟨rfl, trivial⟩, ⟨.inl rfl, trivial⟩⟩⟩
  clear hD
  have hD := hx
  clear hx
  refine ax_Wp.brD hD rfl (fun _ hD => ?_) (fun _ hD => ?_)
  · refine ax_Wp.go (f' := (15, [some (.ref 130), none, none], [.int (nI 0)])) 1 rfl ?_
    obtain rfl := inj hD
    exact kkv1
  · refine ax_Wp.go (f' := (15, [some (.ref 130), none, none], [.int (nI 1)])) 2 rfl ?_
    obtain rfl := inj hD
    exact kkv1
def D169 (m : dM) (p0 : Int32) (p1 : Int32) : Option (Int32) := (D168 m).bind fun (x1 : Int32) => if x1 = (nI 0) then (D154 m p1).bind fun (x2 : Int32) => (D150 m p0 (nI 0)).bind fun (x3 : Int32) => if x2 = x3 then (D157 m p1).bind fun (x4 : Int32) => Option.bind ((if x4 = (nI 0) then some (nI 3) else (D156 m p1).bind fun (x6 : Int32) => if x6 = (nI 0) then some (nI 0) else (D150 m p0 (nI 1)).bind fun (x7 : Int32) => if x7 = (nI 1) then some (nI 4) else some (nI 0)) : Option (Int32)) fun (v5 : Int32) => some v5 else some (nI 2) else some (nI 1)
set_option maxRecDepth 20000 in
theorem w_169 {X : Nat × (Nat → Int32)} {d : Nat} {m : dM} {p0 : Int32} {p1 : Int32} {r : Int32} (hD : D169 m p0 p1 = some r) : ax_Ev X (d + 5) 169 [.ref 130, .int p0, .int p1] (stt m) (.inl (some (.int r))) (stt m) := by
  unfold D169 at hD
  show ax_Wp X (d + 4 + 1) 169 (0, [some (.ref 130), some (.int p0), some (.int p1)], []) (stt m) _
  refine ax_Wp.go (f' := (1, [some (.ref 130), some (.int p0), some (.int p1)], [.ref 130])) 1 rfl ?_
  refine bnd hD (fun x1 hx hD => ?_)
  refine ax_Wp.callE (f' := (4, [some (.ref 130), some (.int p0), some (.int p1)], [])) rfl rfl (w_168 (d := d + 0) hx) rfl ?_
  refine ax_Wp.brD hD rfl (fun _ hD => ?_) (fun _ hD => ?_)
  · refine ax_Wp.go (f' := (11, [some (.ref 130), some (.int p0), some (.int p1)], [.int p1, .ref 130])) 2 rfl ?_
    refine bnd hD (fun x2 hx hD => ?_)
    refine ax_Wp.callE (f' := (14, [some (.ref 130), some (.int p0), some (.int p1)], [])) rfl rfl (w_154 (d := d + 3) hx) rfl ?_
    refine ax_Wp.go (f' := (17, [some (.ref 130), some (.int p0), some (.int p1)], [.int (nI 0), .int p0, .ref 130, .int x2])) 3 rfl ?_
    refine bnd hD (fun x3 hx hD => ?_)
    refine ax_Wp.callE (f' := (20, [some (.ref 130), some (.int p0), some (.int p1)], [.int x2])) rfl rfl (w_150 (d := d + 3) hx) rfl ?_
    refine ax_Wp.brD hD rfl (fun _ hD => ?_) (fun _ hD => ?_)
    · refine ax_Wp.go (f' := (27, [some (.ref 130), some (.int p0), some (.int p1)], [.int p1, .ref 130])) 2 rfl ?_
      refine bnd hD (fun x4 hx hD => ?_)
      refine ax_Wp.callE (f' := (30, [some (.ref 130), some (.int p0), some (.int p1)], [])) rfl rfl (w_157 (d := d + 3) hx) rfl ?_
      refine bnd hD (fun v5 hx hD => ?_)
      refine ax_Wp.jn (F := (60, [some (.ref 130), none, none], [.int v5])) (hh := stt m) ?_ (fun kkv5 => ?_)
      · obtain rfl := inj hD
        exact ax_Wp.ret rfl ⟨rfl, rfl⟩
      clear hD
      have hD := hx
      clear hx
      refine ax_Wp.brD hD rfl (fun _ hD => ?_) (fun _ hD => ?_)
      · refine ax_Wp.go (f' := (60, [some (.ref 130), some (.int p0), some (.int p1)], [.int (nI 3)])) 2 rfl ?_
        obtain rfl := inj hD
        exact ax_Wp.dead kkv5 ⟨.inl rfl, ⟨.inr ⟨rfl, trivial⟩, ⟨.inr ⟨rfl, trivial⟩, trivial⟩⟩⟩
      · refine ax_Wp.go (f' := (39, [some (.ref 130), some (.int p0), some (.int p1)], [.int p1, .ref 130])) 2 rfl ?_
        refine bnd hD (fun x6 hx hD => ?_)
        refine ax_Wp.callE (f' := (42, [some (.ref 130), some (.int p0), some (.int p1)], [])) rfl rfl (w_156 (d := d + 3) hx) rfl ?_
        refine ax_Wp.brD hD rfl (fun _ hD => ?_) (fun _ hD => ?_)
        · refine ax_Wp.go (f' := (60, [some (.ref 130), some (.int p0), some (.int p1)], [.int (nI 0)])) 1 rfl ?_
          obtain rfl := inj hD
          exact ax_Wp.dead kkv5 ⟨.inl rfl, ⟨.inr ⟨rfl, trivial⟩, ⟨.inr ⟨rfl, trivial⟩, trivial⟩⟩⟩
        · refine ax_Wp.go (f' := (48, [some (.ref 130), some (.int p0), some (.int p1)], [.int (nI 1), .int p0, .ref 130])) 3 rfl ?_
          refine bnd hD (fun x7 hx hD => ?_)
          refine ax_Wp.callE (f' := (51, [some (.ref 130), some (.int p0), some (.int p1)], [])) rfl rfl (w_150 (d := d + 3) hx) rfl ?_
          refine ax_Wp.go (f' := (52, [some (.ref 130), some (.int p0), some (.int p1)], [.int (nI 1), .int x7])) 1 rfl ?_
          refine ax_Wp.brD hD rfl (fun _ hD => ?_) (fun _ hD => ?_)
          · refine ax_Wp.go (f' := (60, [some (.ref 130), some (.int p0), some (.int p1)], [.int (nI 4)])) 2 rfl ?_
            obtain rfl := inj hD
            exact ax_Wp.dead kkv5 ⟨.inl rfl, ⟨.inr ⟨rfl, trivial⟩, ⟨.inr ⟨rfl, trivial⟩, trivial⟩⟩⟩
          · refine ax_Wp.go (f' := (60, [some (.ref 130), some (.int p0), some (.int p1)], [.int (nI 0)])) 1 rfl ?_
            obtain rfl := inj hD
            exact ax_Wp.dead kkv5 ⟨.inl rfl, ⟨.inr ⟨rfl, trivial⟩, ⟨.inr ⟨rfl, trivial⟩, trivial⟩⟩⟩
    · refine ax_Wp.go (f' := (24, [some (.ref 130), some (.int p0), some (.int p1)], [.int (nI 2)])) 1 rfl ?_
      obtain rfl := inj hD
      exact ax_Wp.ret rfl ⟨rfl, rfl⟩
  · refine ax_Wp.go (f' := (8, [some (.ref 130), some (.int p0), some (.int p1)], [.int (nI 1)])) 1 rfl ?_
    obtain rfl := inj hD
    exact ax_Wp.ret rfl ⟨rfl, rfl⟩
def D185 (m : dM) (p0 : Int32) (p1 : Int32) : Option (Int32 × dM) := (fI m 130 7 (nI 0)).bind fun (m1 : dM) => (D146 p0).bind fun (x2 : Int32) => if x2 = (nI 0) then (D143 m1 (nI 1)).bind fun (r3 : Int32 × dM) => some (r3.1, r3.2) else (D147 m1 p1).bind fun (x4 : Int32) => if x4 = (nI 0) then (D143 m1 (nI 1)).bind fun (r5 : Int32 × dM) => some (r5.1, r5.2) else (D169 m1 p0 p1).bind fun (x6 : Int32) => if x6 = (nI 0) then (D149 m1).bind fun (r7 : dM) => (D151 r7 p0 (nI 2) p1).bind fun (r8 : dM) => (D155 r8 p1).bind fun (x9 : Int32) => some (x9, r8) else (D143 m1 (nI 2)).bind fun (r10 : Int32 × dM) => some (r10.1, r10.2)
set_option maxRecDepth 20000 in
theorem w_185 {X : Nat × (Nat → Int32)} {d : Nat} {m : dM} {p0 : Int32} {p1 : Int32} {r : Int32 × dM} (hD : D185 m p0 p1 = some r) : ax_Ev X (d + 6) 185 [.ref 130, .int p0, .int p1] (stt m) (.inl (some (.int r.1))) (stt r.2) := by
  unfold D185 at hD
  show ax_Wp X (d + 5 + 1) 185 (0, [some (.ref 130), some (.int p0), some (.int p1)], []) (stt m) _
  refine ax_Wp.go (f' := (2, [some (.ref 130), some (.int p0), some (.int p1)], [.int (nI 0), .ref 130])) 2 rfl ?_
  refine ax_Wp.ptI hD rfl rfl rfl (fun m1 hD => ?_)
  refine ax_Wp.go (f' := (6, [some (.ref 130), some (.int p0), some (.int p1)], [.int p0])) 1 rfl ?_
  refine bnd hD (fun x2 hx hD => ?_)
  refine ax_Wp.callE (f' := (9, [some (.ref 130), some (.int p0), some (.int p1)], [])) rfl rfl (w_146 (d := d + 3) hx) rfl ?_
  refine ax_Wp.brD hD rfl (fun _ hD => ?_) (fun _ hD => ?_)
  · refine ax_Wp.go (f' := (22, [some (.ref 130), some (.int p0), some (.int p1)], [.int (nI 1), .ref 130])) 2 rfl ?_
    refine bnd hD (fun r3 hx hD => ?_)
    refine ax_Wp.callE (f' := (25, [some (.ref 130), some (.int p0), some (.int p1)], [])) rfl rfl (w_143 (d := d + 4) hx) rfl ?_
    obtain rfl := inj hD
    exact ax_Wp.ret rfl ⟨rfl, rfl⟩
  · refine ax_Wp.go (f' := (14, [some (.ref 130), some (.int p0), some (.int p1)], [.int p1, .ref 130])) 2 rfl ?_
    refine bnd hD (fun x4 hx hD => ?_)
    refine ax_Wp.callE (f' := (17, [some (.ref 130), some (.int p0), some (.int p1)], [])) rfl rfl (w_147 (d := d + 3) hx) rfl ?_
    refine ax_Wp.brD hD rfl (fun _ hD => ?_) (fun _ hD => ?_)
    · refine ax_Wp.go (f' := (22, [some (.ref 130), some (.int p0), some (.int p1)], [.int (nI 1), .ref 130])) 2 rfl ?_
      refine bnd hD (fun r5 hx hD => ?_)
      refine ax_Wp.callE (f' := (25, [some (.ref 130), some (.int p0), some (.int p1)], [])) rfl rfl (w_143 (d := d + 4) hx) rfl ?_
      obtain rfl := inj hD
      exact ax_Wp.ret rfl ⟨rfl, rfl⟩
    · refine ax_Wp.go (f' := (29, [some (.ref 130), some (.int p0), some (.int p1)], [.int p1, .int p0, .ref 130])) 3 rfl ?_
      refine bnd hD (fun x6 hx hD => ?_)
      refine ax_Wp.callE (f' := (32, [some (.ref 130), some (.int p0), some (.int p1)], [])) rfl rfl (w_169 (d := d + 0) hx) rfl ?_
      refine ax_Wp.brD hD rfl (fun _ hD => ?_) (fun _ hD => ?_)
      · refine ax_Wp.go (f' := (42, [some (.ref 130), some (.int p0), some (.int p1)], [.ref 130])) 1 rfl ?_
        refine bnd hD (fun r7 hx hD => ?_)
        refine ax_Wp.callE (f' := (45, [some (.ref 130), some (.int p0), some (.int p1)], [])) rfl rfl (w_149 (d := d + 4) hx) rfl ?_
        refine ax_Wp.go (f' := (49, [some (.ref 130), some (.int p0), some (.int p1)], [.int p1, .int (nI 2), .int p0, .ref 130])) 4 rfl ?_
        refine bnd hD (fun r8 hx hD => ?_)
        refine ax_Wp.callE (f' := (52, [some (.ref 130), some (.int p0), some (.int p1)], [])) rfl rfl (w_151 (d := d + 4) hx) rfl ?_
        refine ax_Wp.go (f' := (54, [some (.ref 130), some (.int p0), some (.int p1)], [.int p1, .ref 130])) 2 rfl ?_
        refine bnd hD (fun x9 hx hD => ?_)
        refine ax_Wp.callE (f' := (57, [some (.ref 130), some (.int p0), some (.int p1)], [])) rfl rfl (w_155 (d := d + 4) hx) rfl ?_
        obtain rfl := inj hD
        exact ax_Wp.ret rfl ⟨rfl, rfl⟩
      · refine ax_Wp.go (f' := (37, [some (.ref 130), some (.int p0), some (.int p1)], [.int (nI 2), .ref 130])) 2 rfl ?_
        refine bnd hD (fun r10 hx hD => ?_)
        refine ax_Wp.callE (f' := (40, [some (.ref 130), some (.int p0), some (.int p1)], [])) rfl rfl (w_143 (d := d + 4) hx) rfl ?_
        obtain rfl := inj hD
        exact ax_Wp.ret rfl ⟨rfl, rfl⟩
def D186 (m : dM) (p0 : Int32) : Option (Int32 × dM) := (D146 p0).bind fun (x1 : Int32) => Option.bind ((if x1 = (nI 0) then some (nI 1) else some (nI 0)) : Option (Int32)) fun (v2 : Int32) => (fI m 130 7 v2).bind fun (m3 : dM) => if (rI m3 130 7) ≤ (nI 0) then (D149 m3).bind fun (r4 : dM) => (D150 r4 p0 (nI 2)).bind fun (x5 : Int32) => Option.bind ((if x5 = (-1) then some (nI 0) else some (nI 1)) : Option (Int32)) fun (v6 : Int32) => (D151 r4 p0 (nI 2) (-1)).bind fun (r7 : dM) => (gB v6).bind fun (b8 : Int32) => some (b8, r7) else some (nI 0, m3)
set_option maxRecDepth 20000 in
theorem w_186 {X : Nat × (Nat → Int32)} {d : Nat} {m : dM} {p0 : Int32} {r : Int32 × dM} (hD : D186 m p0 = some r) : ax_Ev X (d + 3) 186 [.ref 130, .int p0] (stt m) (.inl (some (.int r.1))) (stt r.2) := by
  unfold D186 at hD
  show ax_Wp X (d + 2 + 1) 186 (0, [some (.ref 130), some (.int p0), none], []) (stt m) _
  refine ax_Wp.go (f' := (2, [some (.ref 130), some (.int p0), none], [.int p0, .ref 130])) 2 rfl ?_
  refine bnd hD (fun x1 hx hD => ?_)
  refine ax_Wp.callE (f' := (5, [some (.ref 130), some (.int p0), none], [.ref 130])) rfl rfl (w_146 (d := d + 0) hx) rfl ?_
  refine bnd hD (fun v2 hx hD => ?_)
  refine ax_Wp.jn (F := (13, [some (.ref 130), some (.int p0), none], [.int v2, .ref 130])) (hh := stt m) ?_ (fun kkv2 => ?_)
  · refine ax_Wp.ptI hD rfl rfl rfl (fun m3 hD => ?_)
    refine ax_Wp.go (f' := (20, [some (.ref 130), some (.int p0), none], [.int (rI m3 130 7)])) 2 rfl ?_
    refine ax_Wp.brD hD rfl (fun _ hD => ?_) (fun _ hD => ?_)
    · refine ax_Wp.go (f' := (26, [some (.ref 130), some (.int p0), none], [.ref 130])) 1 rfl ?_
      refine bnd hD (fun r4 hx hD => ?_)
      refine ax_Wp.callE (f' := (29, [some (.ref 130), some (.int p0), none], [])) rfl rfl (w_149 (d := d + 1) hx) rfl ?_
      refine ax_Wp.go (f' := (32, [some (.ref 130), some (.int p0), none], [.int (nI 2), .int p0, .ref 130])) 3 rfl ?_
      refine bnd hD (fun x5 hx hD => ?_)
      refine ax_Wp.callE (f' := (35, [some (.ref 130), some (.int p0), none], [])) rfl rfl (w_150 (d := d + 1) hx) rfl ?_
      refine ax_Wp.go (f' := (36, [some (.ref 130), some (.int p0), none], [.int (-1), .int x5])) 1 rfl ?_
      refine bnd hD (fun v6 hx hD => ?_)
      refine ax_Wp.jn (F := (44, [some (.ref 130), some (.int p0), none], [.int v6])) (hh := stt r4) ?_ (fun kkv6 => ?_)
      · refine ax_Wp.go (f' := (49, [some (.ref 130), some (.int p0), some (.int v6)], [.int (-1), .int (nI 2), .int p0, .ref 130])) 5 rfl ?_
        refine bnd hD (fun r7 hx hD => ?_)
        refine ax_Wp.callE (f' := (52, [some (.ref 130), some (.int p0), some (.int v6)], [])) rfl rfl (w_151 (d := d + 1) hx) rfl ?_
        refine ax_Wp.go (f' := (53, [some (.ref 130), some (.int p0), some (.int v6)], [.int v6])) 1 rfl ?_
        refine ax_Wp.retB hD rfl (fun b8 hD => ?_)
        obtain rfl := inj hD
        exact ⟨rfl, rfl⟩
      clear hD
      have hD := hx
      clear hx
      refine ax_Wp.brD hD rfl (fun _ hD => ?_) (fun _ hD => ?_)
      · refine ax_Wp.go (f' := (44, [some (.ref 130), some (.int p0), none], [.int (nI 0)])) 1 rfl ?_
        obtain rfl := inj hD
        exact kkv6
      · refine ax_Wp.go (f' := (44, [some (.ref 130), some (.int p0), none], [.int (nI 1)])) 2 rfl ?_
        obtain rfl := inj hD
        exact kkv6
    · refine ax_Wp.go (f' := (24, [some (.ref 130), some (.int p0), none], [.int (nI 0)])) 1 rfl ?_
      obtain rfl := inj hD
      exact ax_Wp.ret rfl ⟨rfl, rfl⟩
  clear hD
  have hD := hx
  clear hx
  refine ax_Wp.brD hD rfl (fun _ hD => ?_) (fun _ hD => ?_)
  · refine ax_Wp.go (f' := (13, [some (.ref 130), some (.int p0), none], [.int (nI 1), .ref 130])) 1 rfl ?_
    obtain rfl := inj hD
    exact kkv2
  · refine ax_Wp.go (f' := (13, [some (.ref 130), some (.int p0), none], [.int (nI 0), .ref 130])) 2 rfl ?_
    obtain rfl := inj hD
    exact kkv2
def D170 (m : dM) (p0 : Int32) (p1 : Int32) : Option (Int32) := Option.bind ((if p0 = p1 then some (nI 0) else (gI m 136 4 p0).bind fun (x2 : Int32) => if x2 = (nI 0) then some (nI 1) else some (nI 0)) : Option (Int32)) fun (v1 : Int32) => (gB v1).bind fun (b3 : Int32) => some b3
set_option maxRecDepth 20000 in
theorem w_170 {X : Nat × (Nat → Int32)} {d : Nat} {m : dM} {p0 : Int32} {p1 : Int32} {r : Int32} (hD : D170 m p0 p1 = some r) : ax_Ev X (d + 1) 170 [.ref 130, .int p0, .int p1] (stt m) (.inl (some (.int r))) (stt m) := by
  unfold D170 at hD
  show ax_Wp X (d + 0 + 1) 170 (0, [some (.ref 130), some (.int p0), some (.int p1)], []) (stt m) _
  refine ax_Wp.go (f' := (2, [some (.ref 130), some (.int p0), some (.int p1)], [.int p1, .int p0])) 2 rfl ?_
  refine bnd hD (fun v1 hx hD => ?_)
  refine ax_Wp.jn (F := (19, [some (.ref 130), none, none], [.int v1])) (hh := stt m) ?_ (fun kkv1 => ?_)
  · refine ax_Wp.retB hD rfl (fun b3 hD => ?_)
    obtain rfl := inj hD
    exact ⟨rfl, rfl⟩
  clear hD
  have hD := hx
  clear hx
  refine ax_Wp.brD hD rfl (fun _ hD => ?_) (fun _ hD => ?_)
  · refine ax_Wp.go (f' := (19, [some (.ref 130), some (.int p0), some (.int p1)], [.int (nI 0)])) 1 rfl ?_
    obtain rfl := inj hD
    exact ax_Wp.dead kkv1 ⟨.inl rfl, ⟨.inr ⟨rfl, trivial⟩, ⟨.inr ⟨rfl, trivial⟩, trivial⟩⟩⟩
  · refine ax_Wp.go (f' := (10, [some (.ref 130), some (.int p0), some (.int p1)], [.int p0, .ref 136])) 3 rfl ?_
    refine ax_Wp.rdI hD rfl rfl rfl (fun x2 hD => ?_)
    refine ax_Wp.brD hD rfl (fun _ hD => ?_) (fun _ hD => ?_)
    · refine ax_Wp.go (f' := (19, [some (.ref 130), some (.int p0), some (.int p1)], [.int (nI 1)])) 2 rfl ?_
      obtain rfl := inj hD
      exact ax_Wp.dead kkv1 ⟨.inl rfl, ⟨.inr ⟨rfl, trivial⟩, ⟨.inr ⟨rfl, trivial⟩, trivial⟩⟩⟩
    · refine ax_Wp.go (f' := (19, [some (.ref 130), some (.int p0), some (.int p1)], [.int (nI 0)])) 1 rfl ?_
      obtain rfl := inj hD
      exact ax_Wp.dead kkv1 ⟨.inl rfl, ⟨.inr ⟨rfl, trivial⟩, ⟨.inr ⟨rfl, trivial⟩, trivial⟩⟩⟩
def D171 (m : dM) (p0 : Int32) : Option (Int32) := (D150 m p0 (nI 2)).bind fun (x1 : Int32) => Option.bind (lp (β := Int32 × Int32 × Int32 × Int32) 3000 (fun (s2 : Int32 × Int32 × Int32 × Int32 × Int32) => if (nI 4) ≤ s2.2.2.2.2 then some (.inr (s2.1, s2.2.1, s2.2.2.1, s2.2.2.2.1)) else (D170 m s2.2.2.2.2 p0).bind fun (x4 : Int32) => Option.bind ((if s2.1 = (nI 0) then if x4 = (nI 0) then some (nI 0) else (D150 m s2.2.2.2.2 (nI 2)).bind fun (x6 : Int32) => (D155 m x6).bind fun (x7 : Int32) => (D154 m x1).bind fun (x8 : Int32) => if x7 = x8 then (D150 m s2.2.2.2.2 (nI 2)).bind fun (x9 : Int32) => (D154 m x9).bind fun (x10 : Int32) => (D155 m x1).bind fun (x11 : Int32) => if x10 = x11 then some (nI 1) else some (nI 0) else some (nI 0) else some (nI 1)) : Option (Int32)) fun (v5 : Int32) => Option.bind ((if x4 = (nI 0) then some (nI 0) else (D150 m s2.2.2.2.2 (nI 2)).bind fun (x13 : Int32) => (D155 m x13).bind fun (x14 : Int32) => (D155 m x1).bind fun (x15 : Int32) => if x14 = x15 then some (nI 1) else some (nI 0)) : Option (Int32)) fun (v12 : Int32) => Option.bind ((if s2.2.1 = (nI 0) then if v12 = (nI 0) then some (nI 0) else (D158 m s2.2.2.2.2).bind fun (x17 : Int32) => (D158 m p0).bind fun (x18 : Int32) => if x17 ≤ x18 then some (nI 0) else some (nI 1) else some (nI 1)) : Option (Int32)) fun (v16 : Int32) => Option.bind ((if s2.2.2.1 = (nI 0) then if v12 = (nI 0) then some (nI 0) else (D158 m s2.2.2.2.2).bind fun (x20 : Int32) => (D158 m p0).bind fun (x21 : Int32) => if x20 = x21 then some (nI 1) else some (nI 0) else some (nI 1)) : Option (Int32)) fun (v19 : Int32) => Option.bind ((if s2.2.2.2.1 = (nI 0) then if s2.2.2.2.2 = p0 then some (nI 0) else if x4 = (nI 0) then (D150 m s2.2.2.2.2 (nI 0)).bind fun (x23 : Int32) => (D155 m x1).bind fun (x24 : Int32) => if x23 = x24 then some (nI 1) else some (nI 0) else some (nI 0) else some (nI 1)) : Option (Int32)) fun (v22 : Int32) => some (.inl (v5, v16, v19, v22, s2.2.2.2.2 + (nI 1)))) (nI 0, nI 0, nI 0, nI 0, nI 0)) fun (v3 : Int32 × Int32 × Int32 × Int32) => Option.bind ((if v3.1 = (nI 0) then if v3.2.1 = (nI 0) then if v3.2.2.1 = (nI 0) then if v3.2.2.2 = (nI 0) then some (nI 0) else some (nI 5) else some (nI 4) else some (nI 3) else some (nI 2)) : Option (Int32)) fun (v25 : Int32) => some v25
set_option maxRecDepth 20000 in
theorem w_171 {X : Nat × (Nat → Int32)} {d : Nat} {m : dM} {p0 : Int32} {r : Int32} (hD : D171 m p0 = some r) : ax_Ev X (d + 3) 171 [.ref 130, .int p0] (stt m) (.inl (some (.int r))) (stt m) := by
  unfold D171 at hD
  show ax_Wp X (d + 2 + 1) 171 (0, [some (.ref 130), some (.int p0), none, none, none, none, none, none, none, none], []) (stt m) _
  refine ax_Wp.go (f' := (3, [some (.ref 130), some (.int p0), none, none, none, none, none, none, none, none], [.int (nI 2), .int p0, .ref 130])) 3 rfl ?_
  refine bnd hD (fun x1 hx hD => ?_)
  refine ax_Wp.callE (f' := (6, [some (.ref 130), some (.int p0), none, none, none, none, none, none, none, none], [])) rfl rfl (w_150 (d := d + 1) hx) rfl ?_
  refine ax_Wp.go (f' := (21, [some (.ref 130), some (.int p0), some (.int x1), some (.int (nI 0)), some (.int (nI 0)), some (.int (nI 0)), some (.int (nI 0)), some (.int (nI 0)), none, none], [])) 11 rfl ?_
  refine bnd hD (fun v3 hx hD => ?_)
  refine ax_Wp.jn (F := (226, [some (.ref 130), none, none, some (.int v3.1), some (.int v3.2.1), some (.int v3.2.2.1), some (.int v3.2.2.2), none, none, none], [])) (hh := stt m) ?_ (fun kkv3 => ?_)
  · refine ax_Wp.go (f' := (227, [some (.ref 130), none, none, some (.int v3.1), some (.int v3.2.1), some (.int v3.2.2.1), some (.int v3.2.2.2), none, none, none], [.int v3.1])) 1 rfl ?_
    refine bnd hD (fun v25 hx hD => ?_)
    refine ax_Wp.jn (F := (262, [some (.ref 130), none, none, none, none, none, none, none, none, none], [.int v25])) (hh := stt m) ?_ (fun kkv25 => ?_)
    · obtain rfl := inj hD
      exact ax_Wp.ret rfl ⟨rfl, rfl⟩
    clear hD
    have hD := hx
    clear hx
    refine ax_Wp.brD hD rfl (fun _ hD => ?_) (fun _ hD => ?_)
    · refine ax_Wp.go (f' := (236, [some (.ref 130), none, none, some (.int v3.1), some (.int v3.2.1), some (.int v3.2.2.1), some (.int v3.2.2.2), none, none, none], [.int v3.2.1])) 1 rfl ?_
      refine ax_Wp.brD hD rfl (fun _ hD => ?_) (fun _ hD => ?_)
      · refine ax_Wp.go (f' := (245, [some (.ref 130), none, none, some (.int v3.1), some (.int v3.2.1), some (.int v3.2.2.1), some (.int v3.2.2.2), none, none, none], [.int v3.2.2.1])) 1 rfl ?_
        refine ax_Wp.brD hD rfl (fun _ hD => ?_) (fun _ hD => ?_)
        · refine ax_Wp.go (f' := (254, [some (.ref 130), none, none, some (.int v3.1), some (.int v3.2.1), some (.int v3.2.2.1), some (.int v3.2.2.2), none, none, none], [.int v3.2.2.2])) 1 rfl ?_
          refine ax_Wp.brD hD rfl (fun _ hD => ?_) (fun _ hD => ?_)
          · refine ax_Wp.go (f' := (262, [some (.ref 130), none, none, some (.int v3.1), some (.int v3.2.1), some (.int v3.2.2.1), some (.int v3.2.2.2), none, none, none], [.int (nI 0)])) 1 rfl ?_
            obtain rfl := inj hD
            exact ax_Wp.dead kkv25 ⟨.inl rfl, ⟨.inl rfl, ⟨.inl rfl, ⟨.inr ⟨rfl, trivial⟩, ⟨.inr ⟨rfl, trivial⟩, ⟨.inr ⟨rfl, trivial⟩, ⟨.inr ⟨rfl, trivial⟩, ⟨.inl rfl, ⟨.inl rfl, ⟨.inl rfl, trivial⟩⟩⟩⟩⟩⟩⟩⟩⟩⟩
          · refine ax_Wp.go (f' := (262, [some (.ref 130), none, none, some (.int v3.1), some (.int v3.2.1), some (.int v3.2.2.1), some (.int v3.2.2.2), none, none, none], [.int (nI 5)])) 2 rfl ?_
            obtain rfl := inj hD
            exact ax_Wp.dead kkv25 ⟨.inl rfl, ⟨.inl rfl, ⟨.inl rfl, ⟨.inr ⟨rfl, trivial⟩, ⟨.inr ⟨rfl, trivial⟩, ⟨.inr ⟨rfl, trivial⟩, ⟨.inr ⟨rfl, trivial⟩, ⟨.inl rfl, ⟨.inl rfl, ⟨.inl rfl, trivial⟩⟩⟩⟩⟩⟩⟩⟩⟩⟩
        · refine ax_Wp.go (f' := (262, [some (.ref 130), none, none, some (.int v3.1), some (.int v3.2.1), some (.int v3.2.2.1), some (.int v3.2.2.2), none, none, none], [.int (nI 4)])) 2 rfl ?_
          obtain rfl := inj hD
          exact ax_Wp.dead kkv25 ⟨.inl rfl, ⟨.inl rfl, ⟨.inl rfl, ⟨.inr ⟨rfl, trivial⟩, ⟨.inr ⟨rfl, trivial⟩, ⟨.inr ⟨rfl, trivial⟩, ⟨.inr ⟨rfl, trivial⟩, ⟨.inl rfl, ⟨.inl rfl, ⟨.inl rfl, trivial⟩⟩⟩⟩⟩⟩⟩⟩⟩⟩
      · refine ax_Wp.go (f' := (262, [some (.ref 130), none, none, some (.int v3.1), some (.int v3.2.1), some (.int v3.2.2.1), some (.int v3.2.2.2), none, none, none], [.int (nI 3)])) 2 rfl ?_
        obtain rfl := inj hD
        exact ax_Wp.dead kkv25 ⟨.inl rfl, ⟨.inl rfl, ⟨.inl rfl, ⟨.inr ⟨rfl, trivial⟩, ⟨.inr ⟨rfl, trivial⟩, ⟨.inr ⟨rfl, trivial⟩, ⟨.inr ⟨rfl, trivial⟩, ⟨.inl rfl, ⟨.inl rfl, ⟨.inl rfl, trivial⟩⟩⟩⟩⟩⟩⟩⟩⟩⟩
    · refine ax_Wp.go (f' := (262, [some (.ref 130), none, none, some (.int v3.1), some (.int v3.2.1), some (.int v3.2.2.1), some (.int v3.2.2.2), none, none, none], [.int (nI 2)])) 2 rfl ?_
      obtain rfl := inj hD
      exact ax_Wp.dead kkv25 ⟨.inl rfl, ⟨.inl rfl, ⟨.inl rfl, ⟨.inr ⟨rfl, trivial⟩, ⟨.inr ⟨rfl, trivial⟩, ⟨.inr ⟨rfl, trivial⟩, ⟨.inr ⟨rfl, trivial⟩, ⟨.inl rfl, ⟨.inl rfl, ⟨.inl rfl, trivial⟩⟩⟩⟩⟩⟩⟩⟩⟩⟩
  clear hD
  refine ax_Wp.lpD (fun (s2 : Int32 × Int32 × Int32 × Int32 × Int32) => ((21, [some (.ref 130), some (.int p0), some (.int x1), some (.int s2.1), some (.int s2.2.1), some (.int s2.2.2.1), some (.int s2.2.2.2.1), some (.int s2.2.2.2.2), none, none], []), stt m)) ?_ hx
  clear hx
  intro s2 v hD ks2
  refine ax_Wp.go (f' := (24, [some (.ref 130), some (.int p0), some (.int x1), some (.int s2.1), some (.int s2.2.1), some (.int s2.2.2.1), some (.int s2.2.2.2.1), some (.int s2.2.2.2.2), none, none], [.int (nI 4), .int s2.2.2.2.2])) 2 rfl ?_
  refine ax_Wp.brD hD rfl (fun _ hD => ?_) (fun _ hD => ?_)
  · obtain rfl := inj hD
    obtain rfl := ks2.o
    exact ax_Wp.dead kkv3 ⟨.inl rfl, ⟨.inr ⟨rfl, trivial⟩, ⟨.inr ⟨rfl, trivial⟩, ⟨.inl rfl, ⟨.inl rfl, ⟨.inl rfl, ⟨.inl rfl, ⟨.inr ⟨rfl, trivial⟩, ⟨.inl rfl, ⟨.inl rfl, trivial⟩⟩⟩⟩⟩⟩⟩⟩⟩⟩
  · refine ax_Wp.go (f' := (31, [some (.ref 130), some (.int p0), some (.int x1), some (.int s2.1), some (.int s2.2.1), some (.int s2.2.2.1), some (.int s2.2.2.2.1), some (.int s2.2.2.2.2), none, none], [.int p0, .int s2.2.2.2.2, .ref 130])) 3 rfl ?_
    refine bnd hD (fun x4 hx hD => ?_)
    refine ax_Wp.callE (f' := (34, [some (.ref 130), some (.int p0), some (.int x1), some (.int s2.1), some (.int s2.2.1), some (.int s2.2.2.1), some (.int s2.2.2.2.1), some (.int s2.2.2.2.2), none, none], [])) rfl rfl (w_170 (d := d + 1) hx) rfl ?_
    refine ax_Wp.go (f' := (37, [some (.ref 130), some (.int p0), some (.int x1), some (.int s2.1), some (.int s2.2.1), some (.int s2.2.2.1), some (.int s2.2.2.2.1), some (.int s2.2.2.2.2), some (.int x4), none], [.int s2.1])) 2 rfl ?_
    refine bnd hD (fun v5 hx hD => ?_)
    refine ax_Wp.jn (F := (88, [some (.ref 130), some (.int p0), some (.int x1), none, some (.int s2.2.1), some (.int s2.2.2.1), some (.int s2.2.2.2.1), some (.int s2.2.2.2.2), some (.int x4), none], [.int v5])) (hh := stt m) ?_ (fun kkv5 => ?_)
    · refine ax_Wp.go (f' := (91, [some (.ref 130), some (.int p0), some (.int x1), some (.int v5), some (.int s2.2.1), some (.int s2.2.2.1), some (.int s2.2.2.2.1), some (.int s2.2.2.2.2), some (.int x4), none], [.int x4])) 2 rfl ?_
      refine bnd hD (fun v12 hx hD => ?_)
      refine ax_Wp.jn (F := (118, [some (.ref 130), some (.int p0), some (.int x1), some (.int v5), some (.int s2.2.1), some (.int s2.2.2.1), some (.int s2.2.2.2.1), some (.int s2.2.2.2.2), some (.int x4), none], [.int v12])) (hh := stt m) ?_ (fun kkv12 => ?_)
      · refine ax_Wp.go (f' := (122, [some (.ref 130), some (.int p0), some (.int x1), some (.int v5), some (.int s2.2.1), some (.int s2.2.2.1), some (.int s2.2.2.2.1), some (.int s2.2.2.2.2), some (.int x4), some (.int v12)], [.int s2.2.1])) 2 rfl ?_
        refine bnd hD (fun v16 hx hD => ?_)
        refine ax_Wp.jn (F := (149, [some (.ref 130), some (.int p0), some (.int x1), some (.int v5), none, some (.int s2.2.2.1), some (.int s2.2.2.2.1), some (.int s2.2.2.2.2), some (.int x4), some (.int v12)], [.int v16])) (hh := stt m) ?_ (fun kkv16 => ?_)
        · refine ax_Wp.go (f' := (153, [some (.ref 130), some (.int p0), some (.int x1), some (.int v5), some (.int v16), some (.int s2.2.2.1), some (.int s2.2.2.2.1), some (.int s2.2.2.2.2), some (.int x4), some (.int v12)], [.int s2.2.2.1])) 2 rfl ?_
          refine bnd hD (fun v19 hx hD => ?_)
          refine ax_Wp.jn (F := (180, [some (.ref 130), some (.int p0), some (.int x1), some (.int v5), some (.int v16), none, some (.int s2.2.2.2.1), some (.int s2.2.2.2.2), some (.int x4), none], [.int v19])) (hh := stt m) ?_ (fun kkv19 => ?_)
          · refine ax_Wp.go (f' := (184, [some (.ref 130), some (.int p0), some (.int x1), some (.int v5), some (.int v16), some (.int v19), some (.int s2.2.2.2.1), some (.int s2.2.2.2.2), some (.int x4), none], [.int s2.2.2.2.1])) 2 rfl ?_
            refine bnd hD (fun v22 hx hD => ?_)
            refine ax_Wp.jn (F := (218, [some (.ref 130), some (.int p0), some (.int x1), some (.int v5), some (.int v16), some (.int v19), none, some (.int s2.2.2.2.2), none, none], [.int v22])) (hh := stt m) ?_ (fun kkv22 => ?_)
            · refine ax_Wp.go (f' := (21, [some (.ref 130), some (.int p0), some (.int x1), some (.int v5), some (.int v16), some (.int v19), some (.int v22), some (.int (s2.2.2.2.2 + (nI 1))), none, none], [])) 3 rfl ?_
              obtain rfl := inj hD
              exact ks2.i
            clear hD
            have hD := hx
            clear hx
            refine ax_Wp.brD hD rfl (fun _ hD => ?_) (fun _ hD => ?_)
            · refine ax_Wp.go (f' := (190, [some (.ref 130), some (.int p0), some (.int x1), some (.int v5), some (.int v16), some (.int v19), some (.int s2.2.2.2.1), some (.int s2.2.2.2.2), some (.int x4), none], [.int p0, .int s2.2.2.2.2])) 2 rfl ?_
              refine ax_Wp.brD hD rfl (fun _ hD => ?_) (fun _ hD => ?_)
              · refine ax_Wp.go (f' := (218, [some (.ref 130), some (.int p0), some (.int x1), some (.int v5), some (.int v16), some (.int v19), some (.int s2.2.2.2.1), some (.int s2.2.2.2.2), some (.int x4), none], [.int (nI 0)])) 1 rfl ?_
                obtain rfl := inj hD
                exact ax_Wp.dead kkv22 ⟨.inl rfl, ⟨.inl rfl, ⟨.inl rfl, ⟨.inl rfl, ⟨.inl rfl, ⟨.inl rfl, ⟨.inr ⟨rfl, trivial⟩, ⟨.inl rfl, ⟨.inr ⟨rfl, trivial⟩, ⟨.inl rfl, trivial⟩⟩⟩⟩⟩⟩⟩⟩⟩⟩
              · refine ax_Wp.go (f' := (195, [some (.ref 130), some (.int p0), some (.int x1), some (.int v5), some (.int v16), some (.int v19), some (.int s2.2.2.2.1), some (.int s2.2.2.2.2), some (.int x4), none], [.int x4])) 1 rfl ?_
                refine ax_Wp.brD hD rfl (fun _ hD => ?_) (fun _ hD => ?_)
                · refine ax_Wp.go (f' := (202, [some (.ref 130), some (.int p0), some (.int x1), some (.int v5), some (.int v16), some (.int v19), some (.int s2.2.2.2.1), some (.int s2.2.2.2.2), some (.int x4), none], [.int (nI 0), .int s2.2.2.2.2, .ref 130])) 3 rfl ?_
                  refine bnd hD (fun x23 hx hD => ?_)
                  refine ax_Wp.callE (f' := (205, [some (.ref 130), some (.int p0), some (.int x1), some (.int v5), some (.int v16), some (.int v19), some (.int s2.2.2.2.1), some (.int s2.2.2.2.2), some (.int x4), none], [])) rfl rfl (w_150 (d := d + 1) hx) rfl ?_
                  refine ax_Wp.go (f' := (207, [some (.ref 130), some (.int p0), some (.int x1), some (.int v5), some (.int v16), some (.int v19), some (.int s2.2.2.2.1), some (.int s2.2.2.2.2), some (.int x4), none], [.int x1, .ref 130, .int x23])) 2 rfl ?_
                  refine bnd hD (fun x24 hx hD => ?_)
                  refine ax_Wp.callE (f' := (210, [some (.ref 130), some (.int p0), some (.int x1), some (.int v5), some (.int v16), some (.int v19), some (.int s2.2.2.2.1), some (.int s2.2.2.2.2), some (.int x4), none], [.int x23])) rfl rfl (w_155 (d := d + 1) hx) rfl ?_
                  refine ax_Wp.brD hD rfl (fun _ hD => ?_) (fun _ hD => ?_)
                  · refine ax_Wp.go (f' := (218, [some (.ref 130), some (.int p0), some (.int x1), some (.int v5), some (.int v16), some (.int v19), some (.int s2.2.2.2.1), some (.int s2.2.2.2.2), some (.int x4), none], [.int (nI 1)])) 2 rfl ?_
                    obtain rfl := inj hD
                    exact ax_Wp.dead kkv22 ⟨.inl rfl, ⟨.inl rfl, ⟨.inl rfl, ⟨.inl rfl, ⟨.inl rfl, ⟨.inl rfl, ⟨.inr ⟨rfl, trivial⟩, ⟨.inl rfl, ⟨.inr ⟨rfl, trivial⟩, ⟨.inl rfl, trivial⟩⟩⟩⟩⟩⟩⟩⟩⟩⟩
                  · refine ax_Wp.go (f' := (218, [some (.ref 130), some (.int p0), some (.int x1), some (.int v5), some (.int v16), some (.int v19), some (.int s2.2.2.2.1), some (.int s2.2.2.2.2), some (.int x4), none], [.int (nI 0)])) 1 rfl ?_
                    obtain rfl := inj hD
                    exact ax_Wp.dead kkv22 ⟨.inl rfl, ⟨.inl rfl, ⟨.inl rfl, ⟨.inl rfl, ⟨.inl rfl, ⟨.inl rfl, ⟨.inr ⟨rfl, trivial⟩, ⟨.inl rfl, ⟨.inr ⟨rfl, trivial⟩, ⟨.inl rfl, trivial⟩⟩⟩⟩⟩⟩⟩⟩⟩⟩
                · refine ax_Wp.go (f' := (218, [some (.ref 130), some (.int p0), some (.int x1), some (.int v5), some (.int v16), some (.int v19), some (.int s2.2.2.2.1), some (.int s2.2.2.2.2), some (.int x4), none], [.int (nI 0)])) 1 rfl ?_
                  obtain rfl := inj hD
                  exact ax_Wp.dead kkv22 ⟨.inl rfl, ⟨.inl rfl, ⟨.inl rfl, ⟨.inl rfl, ⟨.inl rfl, ⟨.inl rfl, ⟨.inr ⟨rfl, trivial⟩, ⟨.inl rfl, ⟨.inr ⟨rfl, trivial⟩, ⟨.inl rfl, trivial⟩⟩⟩⟩⟩⟩⟩⟩⟩⟩
            · refine ax_Wp.go (f' := (218, [some (.ref 130), some (.int p0), some (.int x1), some (.int v5), some (.int v16), some (.int v19), some (.int s2.2.2.2.1), some (.int s2.2.2.2.2), some (.int x4), none], [.int (nI 1)])) 2 rfl ?_
              obtain rfl := inj hD
              exact ax_Wp.dead kkv22 ⟨.inl rfl, ⟨.inl rfl, ⟨.inl rfl, ⟨.inl rfl, ⟨.inl rfl, ⟨.inl rfl, ⟨.inr ⟨rfl, trivial⟩, ⟨.inl rfl, ⟨.inr ⟨rfl, trivial⟩, ⟨.inl rfl, trivial⟩⟩⟩⟩⟩⟩⟩⟩⟩⟩
          clear hD
          have hD := hx
          clear hx
          refine ax_Wp.brD hD rfl (fun _ hD => ?_) (fun _ hD => ?_)
          · refine ax_Wp.go (f' := (158, [some (.ref 130), some (.int p0), some (.int x1), some (.int v5), some (.int v16), some (.int s2.2.2.1), some (.int s2.2.2.2.1), some (.int s2.2.2.2.2), some (.int x4), some (.int v12)], [.int v12])) 1 rfl ?_
            refine ax_Wp.brD hD rfl (fun _ hD => ?_) (fun _ hD => ?_)
            · refine ax_Wp.go (f' := (180, [some (.ref 130), some (.int p0), some (.int x1), some (.int v5), some (.int v16), some (.int s2.2.2.1), some (.int s2.2.2.2.1), some (.int s2.2.2.2.2), some (.int x4), some (.int v12)], [.int (nI 0)])) 1 rfl ?_
              obtain rfl := inj hD
              exact ax_Wp.dead kkv19 ⟨.inl rfl, ⟨.inl rfl, ⟨.inl rfl, ⟨.inl rfl, ⟨.inl rfl, ⟨.inr ⟨rfl, trivial⟩, ⟨.inl rfl, ⟨.inl rfl, ⟨.inl rfl, ⟨.inr ⟨rfl, trivial⟩, trivial⟩⟩⟩⟩⟩⟩⟩⟩⟩⟩
            · refine ax_Wp.go (f' := (164, [some (.ref 130), some (.int p0), some (.int x1), some (.int v5), some (.int v16), some (.int s2.2.2.1), some (.int s2.2.2.2.1), some (.int s2.2.2.2.2), some (.int x4), some (.int v12)], [.int s2.2.2.2.2, .ref 130])) 2 rfl ?_
              refine bnd hD (fun x20 hx hD => ?_)
              refine ax_Wp.callE (f' := (167, [some (.ref 130), some (.int p0), some (.int x1), some (.int v5), some (.int v16), some (.int s2.2.2.1), some (.int s2.2.2.2.1), some (.int s2.2.2.2.2), some (.int x4), some (.int v12)], [])) rfl rfl (w_158 (d := d + 0) hx) rfl ?_
              refine ax_Wp.go (f' := (169, [some (.ref 130), some (.int p0), some (.int x1), some (.int v5), some (.int v16), some (.int s2.2.2.1), some (.int s2.2.2.2.1), some (.int s2.2.2.2.2), some (.int x4), some (.int v12)], [.int p0, .ref 130, .int x20])) 2 rfl ?_
              refine bnd hD (fun x21 hx hD => ?_)
              refine ax_Wp.callE (f' := (172, [some (.ref 130), some (.int p0), some (.int x1), some (.int v5), some (.int v16), some (.int s2.2.2.1), some (.int s2.2.2.2.1), some (.int s2.2.2.2.2), some (.int x4), some (.int v12)], [.int x20])) rfl rfl (w_158 (d := d + 0) hx) rfl ?_
              refine ax_Wp.brD hD rfl (fun _ hD => ?_) (fun _ hD => ?_)
              · refine ax_Wp.go (f' := (180, [some (.ref 130), some (.int p0), some (.int x1), some (.int v5), some (.int v16), some (.int s2.2.2.1), some (.int s2.2.2.2.1), some (.int s2.2.2.2.2), some (.int x4), some (.int v12)], [.int (nI 1)])) 2 rfl ?_
                obtain rfl := inj hD
                exact ax_Wp.dead kkv19 ⟨.inl rfl, ⟨.inl rfl, ⟨.inl rfl, ⟨.inl rfl, ⟨.inl rfl, ⟨.inr ⟨rfl, trivial⟩, ⟨.inl rfl, ⟨.inl rfl, ⟨.inl rfl, ⟨.inr ⟨rfl, trivial⟩, trivial⟩⟩⟩⟩⟩⟩⟩⟩⟩⟩
              · refine ax_Wp.go (f' := (180, [some (.ref 130), some (.int p0), some (.int x1), some (.int v5), some (.int v16), some (.int s2.2.2.1), some (.int s2.2.2.2.1), some (.int s2.2.2.2.2), some (.int x4), some (.int v12)], [.int (nI 0)])) 1 rfl ?_
                obtain rfl := inj hD
                exact ax_Wp.dead kkv19 ⟨.inl rfl, ⟨.inl rfl, ⟨.inl rfl, ⟨.inl rfl, ⟨.inl rfl, ⟨.inr ⟨rfl, trivial⟩, ⟨.inl rfl, ⟨.inl rfl, ⟨.inl rfl, ⟨.inr ⟨rfl, trivial⟩, trivial⟩⟩⟩⟩⟩⟩⟩⟩⟩⟩
          · refine ax_Wp.go (f' := (180, [some (.ref 130), some (.int p0), some (.int x1), some (.int v5), some (.int v16), some (.int s2.2.2.1), some (.int s2.2.2.2.1), some (.int s2.2.2.2.2), some (.int x4), some (.int v12)], [.int (nI 1)])) 2 rfl ?_
            obtain rfl := inj hD
            exact ax_Wp.dead kkv19 ⟨.inl rfl, ⟨.inl rfl, ⟨.inl rfl, ⟨.inl rfl, ⟨.inl rfl, ⟨.inr ⟨rfl, trivial⟩, ⟨.inl rfl, ⟨.inl rfl, ⟨.inl rfl, ⟨.inr ⟨rfl, trivial⟩, trivial⟩⟩⟩⟩⟩⟩⟩⟩⟩⟩
        clear hD
        have hD := hx
        clear hx
        refine ax_Wp.brD hD rfl (fun _ hD => ?_) (fun _ hD => ?_)
        · refine ax_Wp.go (f' := (127, [some (.ref 130), some (.int p0), some (.int x1), some (.int v5), some (.int s2.2.1), some (.int s2.2.2.1), some (.int s2.2.2.2.1), some (.int s2.2.2.2.2), some (.int x4), some (.int v12)], [.int v12])) 1 rfl ?_
          refine ax_Wp.brD hD rfl (fun _ hD => ?_) (fun _ hD => ?_)
          · refine ax_Wp.go (f' := (149, [some (.ref 130), some (.int p0), some (.int x1), some (.int v5), some (.int s2.2.1), some (.int s2.2.2.1), some (.int s2.2.2.2.1), some (.int s2.2.2.2.2), some (.int x4), some (.int v12)], [.int (nI 0)])) 1 rfl ?_
            obtain rfl := inj hD
            exact ax_Wp.dead kkv16 ⟨.inl rfl, ⟨.inl rfl, ⟨.inl rfl, ⟨.inl rfl, ⟨.inr ⟨rfl, trivial⟩, ⟨.inl rfl, ⟨.inl rfl, ⟨.inl rfl, ⟨.inl rfl, ⟨.inl rfl, trivial⟩⟩⟩⟩⟩⟩⟩⟩⟩⟩
          · refine ax_Wp.go (f' := (133, [some (.ref 130), some (.int p0), some (.int x1), some (.int v5), some (.int s2.2.1), some (.int s2.2.2.1), some (.int s2.2.2.2.1), some (.int s2.2.2.2.2), some (.int x4), some (.int v12)], [.int s2.2.2.2.2, .ref 130])) 2 rfl ?_
            refine bnd hD (fun x17 hx hD => ?_)
            refine ax_Wp.callE (f' := (136, [some (.ref 130), some (.int p0), some (.int x1), some (.int v5), some (.int s2.2.1), some (.int s2.2.2.1), some (.int s2.2.2.2.1), some (.int s2.2.2.2.2), some (.int x4), some (.int v12)], [])) rfl rfl (w_158 (d := d + 0) hx) rfl ?_
            refine ax_Wp.go (f' := (138, [some (.ref 130), some (.int p0), some (.int x1), some (.int v5), some (.int s2.2.1), some (.int s2.2.2.1), some (.int s2.2.2.2.1), some (.int s2.2.2.2.2), some (.int x4), some (.int v12)], [.int p0, .ref 130, .int x17])) 2 rfl ?_
            refine bnd hD (fun x18 hx hD => ?_)
            refine ax_Wp.callE (f' := (141, [some (.ref 130), some (.int p0), some (.int x1), some (.int v5), some (.int s2.2.1), some (.int s2.2.2.1), some (.int s2.2.2.2.1), some (.int s2.2.2.2.2), some (.int x4), some (.int v12)], [.int x17])) rfl rfl (w_158 (d := d + 0) hx) rfl ?_
            refine ax_Wp.brD hD rfl (fun _ hD => ?_) (fun _ hD => ?_)
            · refine ax_Wp.go (f' := (149, [some (.ref 130), some (.int p0), some (.int x1), some (.int v5), some (.int s2.2.1), some (.int s2.2.2.1), some (.int s2.2.2.2.1), some (.int s2.2.2.2.2), some (.int x4), some (.int v12)], [.int (nI 0)])) 1 rfl ?_
              obtain rfl := inj hD
              exact ax_Wp.dead kkv16 ⟨.inl rfl, ⟨.inl rfl, ⟨.inl rfl, ⟨.inl rfl, ⟨.inr ⟨rfl, trivial⟩, ⟨.inl rfl, ⟨.inl rfl, ⟨.inl rfl, ⟨.inl rfl, ⟨.inl rfl, trivial⟩⟩⟩⟩⟩⟩⟩⟩⟩⟩
            · refine ax_Wp.go (f' := (149, [some (.ref 130), some (.int p0), some (.int x1), some (.int v5), some (.int s2.2.1), some (.int s2.2.2.1), some (.int s2.2.2.2.1), some (.int s2.2.2.2.2), some (.int x4), some (.int v12)], [.int (nI 1)])) 2 rfl ?_
              obtain rfl := inj hD
              exact ax_Wp.dead kkv16 ⟨.inl rfl, ⟨.inl rfl, ⟨.inl rfl, ⟨.inl rfl, ⟨.inr ⟨rfl, trivial⟩, ⟨.inl rfl, ⟨.inl rfl, ⟨.inl rfl, ⟨.inl rfl, ⟨.inl rfl, trivial⟩⟩⟩⟩⟩⟩⟩⟩⟩⟩
        · refine ax_Wp.go (f' := (149, [some (.ref 130), some (.int p0), some (.int x1), some (.int v5), some (.int s2.2.1), some (.int s2.2.2.1), some (.int s2.2.2.2.1), some (.int s2.2.2.2.2), some (.int x4), some (.int v12)], [.int (nI 1)])) 2 rfl ?_
          obtain rfl := inj hD
          exact ax_Wp.dead kkv16 ⟨.inl rfl, ⟨.inl rfl, ⟨.inl rfl, ⟨.inl rfl, ⟨.inr ⟨rfl, trivial⟩, ⟨.inl rfl, ⟨.inl rfl, ⟨.inl rfl, ⟨.inl rfl, ⟨.inl rfl, trivial⟩⟩⟩⟩⟩⟩⟩⟩⟩⟩
      clear hD
      have hD := hx
      clear hx
      refine ax_Wp.brD hD rfl (fun _ hD => ?_) (fun _ hD => ?_)
      · refine ax_Wp.go (f' := (118, [some (.ref 130), some (.int p0), some (.int x1), some (.int v5), some (.int s2.2.1), some (.int s2.2.2.1), some (.int s2.2.2.2.1), some (.int s2.2.2.2.2), some (.int x4), none], [.int (nI 0)])) 1 rfl ?_
        obtain rfl := inj hD
        exact kkv12
      · refine ax_Wp.go (f' := (99, [some (.ref 130), some (.int p0), some (.int x1), some (.int v5), some (.int s2.2.1), some (.int s2.2.2.1), some (.int s2.2.2.2.1), some (.int s2.2.2.2.2), some (.int x4), none], [.int (nI 2), .int s2.2.2.2.2, .ref 130, .ref 130])) 4 rfl ?_
        refine bnd hD (fun x13 hx hD => ?_)
        refine ax_Wp.callE (f' := (102, [some (.ref 130), some (.int p0), some (.int x1), some (.int v5), some (.int s2.2.1), some (.int s2.2.2.1), some (.int s2.2.2.2.1), some (.int s2.2.2.2.2), some (.int x4), none], [.ref 130])) rfl rfl (w_150 (d := d + 1) hx) rfl ?_
        refine bnd hD (fun x14 hx hD => ?_)
        refine ax_Wp.callE (f' := (105, [some (.ref 130), some (.int p0), some (.int x1), some (.int v5), some (.int s2.2.1), some (.int s2.2.2.1), some (.int s2.2.2.2.1), some (.int s2.2.2.2.2), some (.int x4), none], [])) rfl rfl (w_155 (d := d + 1) hx) rfl ?_
        refine ax_Wp.go (f' := (107, [some (.ref 130), some (.int p0), some (.int x1), some (.int v5), some (.int s2.2.1), some (.int s2.2.2.1), some (.int s2.2.2.2.1), some (.int s2.2.2.2.2), some (.int x4), none], [.int x1, .ref 130, .int x14])) 2 rfl ?_
        refine bnd hD (fun x15 hx hD => ?_)
        refine ax_Wp.callE (f' := (110, [some (.ref 130), some (.int p0), some (.int x1), some (.int v5), some (.int s2.2.1), some (.int s2.2.2.1), some (.int s2.2.2.2.1), some (.int s2.2.2.2.2), some (.int x4), none], [.int x14])) rfl rfl (w_155 (d := d + 1) hx) rfl ?_
        refine ax_Wp.brD hD rfl (fun _ hD => ?_) (fun _ hD => ?_)
        · refine ax_Wp.go (f' := (118, [some (.ref 130), some (.int p0), some (.int x1), some (.int v5), some (.int s2.2.1), some (.int s2.2.2.1), some (.int s2.2.2.2.1), some (.int s2.2.2.2.2), some (.int x4), none], [.int (nI 1)])) 2 rfl ?_
          obtain rfl := inj hD
          exact kkv12
        · refine ax_Wp.go (f' := (118, [some (.ref 130), some (.int p0), some (.int x1), some (.int v5), some (.int s2.2.1), some (.int s2.2.2.1), some (.int s2.2.2.2.1), some (.int s2.2.2.2.2), some (.int x4), none], [.int (nI 0)])) 1 rfl ?_
          obtain rfl := inj hD
          exact kkv12
    clear hD
    have hD := hx
    clear hx
    refine ax_Wp.brD hD rfl (fun _ hD => ?_) (fun _ hD => ?_)
    · refine ax_Wp.go (f' := (42, [some (.ref 130), some (.int p0), some (.int x1), some (.int s2.1), some (.int s2.2.1), some (.int s2.2.2.1), some (.int s2.2.2.2.1), some (.int s2.2.2.2.2), some (.int x4), none], [.int x4])) 1 rfl ?_
      refine ax_Wp.brD hD rfl (fun _ hD => ?_) (fun _ hD => ?_)
      · refine ax_Wp.go (f' := (88, [some (.ref 130), some (.int p0), some (.int x1), some (.int s2.1), some (.int s2.2.1), some (.int s2.2.2.1), some (.int s2.2.2.2.1), some (.int s2.2.2.2.2), some (.int x4), none], [.int (nI 0)])) 1 rfl ?_
        obtain rfl := inj hD
        exact ax_Wp.dead kkv5 ⟨.inl rfl, ⟨.inl rfl, ⟨.inl rfl, ⟨.inr ⟨rfl, trivial⟩, ⟨.inl rfl, ⟨.inl rfl, ⟨.inl rfl, ⟨.inl rfl, ⟨.inl rfl, ⟨.inl rfl, trivial⟩⟩⟩⟩⟩⟩⟩⟩⟩⟩
      · refine ax_Wp.go (f' := (50, [some (.ref 130), some (.int p0), some (.int x1), some (.int s2.1), some (.int s2.2.1), some (.int s2.2.2.1), some (.int s2.2.2.2.1), some (.int s2.2.2.2.2), some (.int x4), none], [.int (nI 2), .int s2.2.2.2.2, .ref 130, .ref 130])) 4 rfl ?_
        refine bnd hD (fun x6 hx hD => ?_)
        refine ax_Wp.callE (f' := (53, [some (.ref 130), some (.int p0), some (.int x1), some (.int s2.1), some (.int s2.2.1), some (.int s2.2.2.1), some (.int s2.2.2.2.1), some (.int s2.2.2.2.2), some (.int x4), none], [.ref 130])) rfl rfl (w_150 (d := d + 1) hx) rfl ?_
        refine bnd hD (fun x7 hx hD => ?_)
        refine ax_Wp.callE (f' := (56, [some (.ref 130), some (.int p0), some (.int x1), some (.int s2.1), some (.int s2.2.1), some (.int s2.2.2.1), some (.int s2.2.2.2.1), some (.int s2.2.2.2.2), some (.int x4), none], [])) rfl rfl (w_155 (d := d + 1) hx) rfl ?_
        refine ax_Wp.go (f' := (58, [some (.ref 130), some (.int p0), some (.int x1), some (.int s2.1), some (.int s2.2.1), some (.int s2.2.2.1), some (.int s2.2.2.2.1), some (.int s2.2.2.2.2), some (.int x4), none], [.int x1, .ref 130, .int x7])) 2 rfl ?_
        refine bnd hD (fun x8 hx hD => ?_)
        refine ax_Wp.callE (f' := (61, [some (.ref 130), some (.int p0), some (.int x1), some (.int s2.1), some (.int s2.2.1), some (.int s2.2.2.1), some (.int s2.2.2.2.1), some (.int s2.2.2.2.2), some (.int x4), none], [.int x7])) rfl rfl (w_154 (d := d + 1) hx) rfl ?_
        refine ax_Wp.brD hD rfl (fun _ hD => ?_) (fun _ hD => ?_)
        · refine ax_Wp.go (f' := (69, [some (.ref 130), some (.int p0), some (.int x1), some (.int s2.1), some (.int s2.2.1), some (.int s2.2.2.1), some (.int s2.2.2.2.1), some (.int s2.2.2.2.2), some (.int x4), none], [.int (nI 2), .int s2.2.2.2.2, .ref 130, .ref 130])) 4 rfl ?_
          refine bnd hD (fun x9 hx hD => ?_)
          refine ax_Wp.callE (f' := (72, [some (.ref 130), some (.int p0), some (.int x1), some (.int s2.1), some (.int s2.2.1), some (.int s2.2.2.1), some (.int s2.2.2.2.1), some (.int s2.2.2.2.2), some (.int x4), none], [.ref 130])) rfl rfl (w_150 (d := d + 1) hx) rfl ?_
          refine bnd hD (fun x10 hx hD => ?_)
          refine ax_Wp.callE (f' := (75, [some (.ref 130), some (.int p0), some (.int x1), some (.int s2.1), some (.int s2.2.1), some (.int s2.2.2.1), some (.int s2.2.2.2.1), some (.int s2.2.2.2.2), some (.int x4), none], [])) rfl rfl (w_154 (d := d + 1) hx) rfl ?_
          refine ax_Wp.go (f' := (77, [some (.ref 130), some (.int p0), some (.int x1), some (.int s2.1), some (.int s2.2.1), some (.int s2.2.2.1), some (.int s2.2.2.2.1), some (.int s2.2.2.2.2), some (.int x4), none], [.int x1, .ref 130, .int x10])) 2 rfl ?_
          refine bnd hD (fun x11 hx hD => ?_)
          refine ax_Wp.callE (f' := (80, [some (.ref 130), some (.int p0), some (.int x1), some (.int s2.1), some (.int s2.2.1), some (.int s2.2.2.1), some (.int s2.2.2.2.1), some (.int s2.2.2.2.2), some (.int x4), none], [.int x10])) rfl rfl (w_155 (d := d + 1) hx) rfl ?_
          refine ax_Wp.brD hD rfl (fun _ hD => ?_) (fun _ hD => ?_)
          · refine ax_Wp.go (f' := (88, [some (.ref 130), some (.int p0), some (.int x1), some (.int s2.1), some (.int s2.2.1), some (.int s2.2.2.1), some (.int s2.2.2.2.1), some (.int s2.2.2.2.2), some (.int x4), none], [.int (nI 1)])) 2 rfl ?_
            obtain rfl := inj hD
            exact ax_Wp.dead kkv5 ⟨.inl rfl, ⟨.inl rfl, ⟨.inl rfl, ⟨.inr ⟨rfl, trivial⟩, ⟨.inl rfl, ⟨.inl rfl, ⟨.inl rfl, ⟨.inl rfl, ⟨.inl rfl, ⟨.inl rfl, trivial⟩⟩⟩⟩⟩⟩⟩⟩⟩⟩
          · refine ax_Wp.go (f' := (88, [some (.ref 130), some (.int p0), some (.int x1), some (.int s2.1), some (.int s2.2.1), some (.int s2.2.2.1), some (.int s2.2.2.2.1), some (.int s2.2.2.2.2), some (.int x4), none], [.int (nI 0)])) 1 rfl ?_
            obtain rfl := inj hD
            exact ax_Wp.dead kkv5 ⟨.inl rfl, ⟨.inl rfl, ⟨.inl rfl, ⟨.inr ⟨rfl, trivial⟩, ⟨.inl rfl, ⟨.inl rfl, ⟨.inl rfl, ⟨.inl rfl, ⟨.inl rfl, ⟨.inl rfl, trivial⟩⟩⟩⟩⟩⟩⟩⟩⟩⟩
        · refine ax_Wp.go (f' := (88, [some (.ref 130), some (.int p0), some (.int x1), some (.int s2.1), some (.int s2.2.1), some (.int s2.2.2.1), some (.int s2.2.2.2.1), some (.int s2.2.2.2.2), some (.int x4), none], [.int (nI 0)])) 1 rfl ?_
          obtain rfl := inj hD
          exact ax_Wp.dead kkv5 ⟨.inl rfl, ⟨.inl rfl, ⟨.inl rfl, ⟨.inr ⟨rfl, trivial⟩, ⟨.inl rfl, ⟨.inl rfl, ⟨.inl rfl, ⟨.inl rfl, ⟨.inl rfl, ⟨.inl rfl, trivial⟩⟩⟩⟩⟩⟩⟩⟩⟩⟩
    · refine ax_Wp.go (f' := (88, [some (.ref 130), some (.int p0), some (.int x1), some (.int s2.1), some (.int s2.2.1), some (.int s2.2.2.1), some (.int s2.2.2.2.1), some (.int s2.2.2.2.2), some (.int x4), none], [.int (nI 1)])) 2 rfl ?_
      obtain rfl := inj hD
      exact ax_Wp.dead kkv5 ⟨.inl rfl, ⟨.inl rfl, ⟨.inl rfl, ⟨.inr ⟨rfl, trivial⟩, ⟨.inl rfl, ⟨.inl rfl, ⟨.inl rfl, ⟨.inl rfl, ⟨.inl rfl, ⟨.inl rfl, trivial⟩⟩⟩⟩⟩⟩⟩⟩⟩⟩
def D172 (m : dM) : Option (dM) := Option.bind (lp (β := dM) 3000 (fun (s1 : Int32 × dM) => if (nI 4) ≤ s1.1 then some (.inr s1.2) else (D150 s1.2 s1.1 (nI 2)).bind fun (x3 : Int32) => Option.bind ((if x3 = (-1) then some (nI 1) else some (nI 0)) : Option (Int32)) fun (v4 : Int32) => (sI s1.2 135 4 s1.1 v4).bind fun (m5 : dM) => some (.inl (s1.1 + (nI 1), m5))) (nI 0, m)) fun (v2 : dM) => Option.bind (lp (β := dM) 3000 (fun (s6 : Int32 × dM) => if s6.1 = (nI 0) then some (.inr s6.2) else Option.bind (lp (β := dM) 3000 (fun (s8 : Int32 × dM) => if (nI 4) ≤ s8.1 then some (.inr s8.2) else (gI s8.2 135 4 s8.1).bind fun (x10 : Int32) => (sI s8.2 136 4 s8.1 x10).bind fun (m11 : dM) => some (.inl (s8.1 + (nI 1), m11))) (nI 0, s6.2)) fun (v9 : dM) => Option.bind (lp (β := Int32 × dM) 3000 (fun (s12 : Int32 × Int32 × dM) => if (nI 4) ≤ s12.2.1 then some (.inr (s12.1, s12.2.2)) else (gI s12.2.2 136 4 s12.2.1).bind fun (x14 : Int32) => Option.bind ((if x14 = (nI 0) then (D171 s12.2.2 s12.2.1).bind fun (x16 : Int32) => some x16 else (gI s12.2.2 136 4 s12.2.1).bind fun (x17 : Int32) => some x17) : Option (Int32)) fun (v15 : Int32) => (sI s12.2.2 135 4 s12.2.1 v15).bind fun (m18 : dM) => Option.bind ((if s12.1 = (nI 0) then (gI m18 135 4 s12.2.1).bind fun (x20 : Int32) => (gI m18 136 4 s12.2.1).bind fun (x21 : Int32) => if x20 = x21 then some (nI 0) else some (nI 1) else some (nI 1)) : Option (Int32)) fun (v19 : Int32) => some (.inl (v19, s12.2.1 + (nI 1), m18))) (nI 0, nI 0, v9)) fun (v13 : Int32 × dM) => some (.inl (v13.1, v13.2))) (nI 1, v2)) fun (v7 : dM) => some v7
set_option maxRecDepth 20000 in
theorem w_172 {X : Nat × (Nat → Int32)} {d : Nat} {m : dM} {r : dM} (hD : D172 m = some r) : ax_Ev X (d + 4) 172 [.ref 130] (stt m) (.inl none) (stt r) := by
  unfold D172 at hD
  show ax_Wp X (d + 3 + 1) 172 (0, [some (.ref 130), none, none], []) (stt m) _
  refine ax_Wp.go (f' := (2, [some (.ref 130), some (.int (nI 0)), none], [])) 2 rfl ?_
  refine bnd hD (fun v2 hx hD => ?_)
  refine ax_Wp.jn (F := (34, [some (.ref 130), none, none], [])) (hh := stt v2) ?_ (fun kkv2 => ?_)
  · refine ax_Wp.go (f' := (36, [some (.ref 130), some (.int (nI 1)), none], [])) 2 rfl ?_
    refine bnd hD (fun v7 hx hD => ?_)
    refine ax_Wp.jn (F := (137, [some (.ref 130), none, none], [])) (hh := stt v7) ?_ (fun kkv7 => ?_)
    · obtain rfl := inj hD
      exact ax_Wp.ret rfl ⟨rfl, rfl⟩
    clear hD
    refine ax_Wp.lpD (fun (s6 : Int32 × dM) => ((36, [some (.ref 130), some (.int s6.1), none], []), stt s6.2)) ?_ hx
    clear hx
    intro s6 v hD ks6
    refine ax_Wp.go (f' := (37, [some (.ref 130), some (.int s6.1), none], [.int s6.1])) 1 rfl ?_
    refine ax_Wp.brD hD rfl (fun _ hD => ?_) (fun _ hD => ?_)
    · obtain rfl := inj hD
      obtain rfl := ks6.o
      exact ax_Wp.dead kkv7 ⟨.inl rfl, ⟨.inr ⟨rfl, trivial⟩, ⟨.inl rfl, trivial⟩⟩⟩
    · refine ax_Wp.go (f' := (44, [some (.ref 130), some (.int (nI 0)), some (.int (nI 0))], [])) 4 rfl ?_
      refine bnd hD (fun v9 hx hD => ?_)
      refine ax_Wp.jn (F := (67, [some (.ref 130), some (.int (nI 0)), none], [])) (hh := stt v9) ?_ (fun kkv9 => ?_)
      · refine ax_Wp.go (f' := (69, [some (.ref 130), some (.int (nI 0)), some (.int (nI 0))], [])) 2 rfl ?_
        refine bnd hD (fun v13 hx hD => ?_)
        refine ax_Wp.jn (F := (134, [some (.ref 130), some (.int v13.1), none], [])) (hh := stt v13.2) ?_ (fun kkv13 => ?_)
        · refine ax_Wp.go (f' := (36, [some (.ref 130), some (.int v13.1), none], [])) 1 rfl ?_
          obtain rfl := inj hD
          exact ks6.i
        clear hD
        refine ax_Wp.lpD (fun (s12 : Int32 × Int32 × dM) => ((69, [some (.ref 130), some (.int s12.1), some (.int s12.2.1)], []), stt s12.2.2)) ?_ hx
        clear hx
        intro s12 v hD ks12
        refine ax_Wp.go (f' := (71, [some (.ref 130), some (.int s12.1), some (.int s12.2.1)], [.int (nI 4), .int s12.2.1])) 2 rfl ?_
        refine ax_Wp.brD hD rfl (fun _ hD => ?_) (fun _ hD => ?_)
        · obtain rfl := inj hD
          obtain rfl := ks12.o
          exact ax_Wp.dead kkv13 ⟨.inl rfl, ⟨.inl rfl, ⟨.inr ⟨rfl, trivial⟩, trivial⟩⟩⟩
        · refine ax_Wp.go (f' := (84, [some (.ref 130), some (.int s12.1), some (.int s12.2.1)], [.int s12.2.1, .ref 136, .int s12.2.1, .ref 135])) 6 rfl ?_
          refine ax_Wp.rdI hD rfl rfl rfl (fun x14 hD => ?_)
          refine bnd hD (fun v15 hx hD => ?_)
          refine ax_Wp.jn (F := (102, [some (.ref 130), some (.int s12.1), some (.int s12.2.1)], [.int v15, .int s12.2.1, .ref 135])) (hh := stt s12.2.2) ?_ (fun kkv15 => ?_)
          · refine ax_Wp.wrI hD rfl rfl (fun _ => rfl) (fun m18 hD => ?_)
            refine ax_Wp.go (f' := (104, [some (.ref 130), some (.int s12.1), some (.int s12.2.1)], [.int s12.1])) 1 rfl ?_
            refine bnd hD (fun v19 hx hD => ?_)
            refine ax_Wp.jn (F := (127, [some (.ref 130), none, some (.int s12.2.1)], [.int v19])) (hh := stt m18) ?_ (fun kkv19 => ?_)
            · refine ax_Wp.go (f' := (69, [some (.ref 130), some (.int v19), some (.int (s12.2.1 + (nI 1)))], [])) 3 rfl ?_
              obtain rfl := inj hD
              exact ks12.i
            clear hD
            have hD := hx
            clear hx
            refine ax_Wp.brD hD rfl (fun _ hD => ?_) (fun _ hD => ?_)
            · refine ax_Wp.go (f' := (112, [some (.ref 130), some (.int s12.1), some (.int s12.2.1)], [.int s12.2.1, .ref 135])) 3 rfl ?_
              refine ax_Wp.rdI hD rfl rfl rfl (fun x20 hD => ?_)
              refine ax_Wp.go (f' := (118, [some (.ref 130), some (.int s12.1), some (.int s12.2.1)], [.int s12.2.1, .ref 136, .int x20])) 3 rfl ?_
              refine ax_Wp.rdI hD rfl rfl rfl (fun x21 hD => ?_)
              refine ax_Wp.brD hD rfl (fun _ hD => ?_) (fun _ hD => ?_)
              · refine ax_Wp.go (f' := (127, [some (.ref 130), some (.int s12.1), some (.int s12.2.1)], [.int (nI 0)])) 1 rfl ?_
                obtain rfl := inj hD
                exact ax_Wp.dead kkv19 ⟨.inl rfl, ⟨.inr ⟨rfl, trivial⟩, ⟨.inl rfl, trivial⟩⟩⟩
              · refine ax_Wp.go (f' := (127, [some (.ref 130), some (.int s12.1), some (.int s12.2.1)], [.int (nI 1)])) 2 rfl ?_
                obtain rfl := inj hD
                exact ax_Wp.dead kkv19 ⟨.inl rfl, ⟨.inr ⟨rfl, trivial⟩, ⟨.inl rfl, trivial⟩⟩⟩
            · refine ax_Wp.go (f' := (127, [some (.ref 130), some (.int s12.1), some (.int s12.2.1)], [.int (nI 1)])) 2 rfl ?_
              obtain rfl := inj hD
              exact ax_Wp.dead kkv19 ⟨.inl rfl, ⟨.inr ⟨rfl, trivial⟩, ⟨.inl rfl, trivial⟩⟩⟩
          clear hD
          have hD := hx
          clear hx
          refine ax_Wp.brD hD rfl (fun _ hD => ?_) (fun _ hD => ?_)
          · refine ax_Wp.go (f' := (90, [some (.ref 130), some (.int s12.1), some (.int s12.2.1)], [.int s12.2.1, .ref 130, .int s12.2.1, .ref 135])) 2 rfl ?_
            refine bnd hD (fun x16 hx hD => ?_)
            refine ax_Wp.callE (f' := (93, [some (.ref 130), some (.int s12.1), some (.int s12.2.1)], [.int s12.2.1, .ref 135])) rfl rfl (w_171 (d := d + 0) hx) rfl ?_
            refine ax_Wp.go (f' := (102, [some (.ref 130), some (.int s12.1), some (.int s12.2.1)], [.int x16, .int s12.2.1, .ref 135])) 1 rfl ?_
            obtain rfl := inj hD
            exact kkv15
          · refine ax_Wp.go (f' := (101, [some (.ref 130), some (.int s12.1), some (.int s12.2.1)], [.int s12.2.1, .ref 136, .int s12.2.1, .ref 135])) 3 rfl ?_
            refine ax_Wp.rdI hD rfl rfl rfl (fun x17 hD => ?_)
            obtain rfl := inj hD
            exact kkv15
      clear hD
      refine ax_Wp.lpD (fun (s8 : Int32 × dM) => ((44, [some (.ref 130), some (.int (nI 0)), some (.int s8.1)], []), stt s8.2)) ?_ hx
      clear hx
      intro s8 v hD ks8
      refine ax_Wp.go (f' := (46, [some (.ref 130), some (.int (nI 0)), some (.int s8.1)], [.int (nI 4), .int s8.1])) 2 rfl ?_
      refine ax_Wp.brD hD rfl (fun _ hD => ?_) (fun _ hD => ?_)
      · obtain rfl := inj hD
        obtain rfl := ks8.o
        exact ax_Wp.dead kkv9 ⟨.inl rfl, ⟨.inl rfl, ⟨.inr ⟨rfl, trivial⟩, trivial⟩⟩⟩
      · refine ax_Wp.go (f' := (59, [some (.ref 130), some (.int (nI 0)), some (.int s8.1)], [.int s8.1, .ref 135, .int s8.1, .ref 136])) 6 rfl ?_
        refine ax_Wp.rdI hD rfl rfl rfl (fun x10 hD => ?_)
        refine ax_Wp.wrI hD rfl rfl (fun _ => rfl) (fun m11 hD => ?_)
        refine ax_Wp.go (f' := (44, [some (.ref 130), some (.int (nI 0)), some (.int (s8.1 + (nI 1)))], [])) 2 rfl ?_
        obtain rfl := inj hD
        exact ks8.i
  clear hD
  refine ax_Wp.lpD (fun (s1 : Int32 × dM) => ((2, [some (.ref 130), some (.int s1.1), none], []), stt s1.2)) ?_ hx
  clear hx
  intro s1 v hD ks1
  refine ax_Wp.go (f' := (4, [some (.ref 130), some (.int s1.1), none], [.int (nI 4), .int s1.1])) 2 rfl ?_
  refine ax_Wp.brD hD rfl (fun _ hD => ?_) (fun _ hD => ?_)
  · obtain rfl := inj hD
    obtain rfl := ks1.o
    exact ax_Wp.dead kkv2 ⟨.inl rfl, ⟨.inr ⟨rfl, trivial⟩, ⟨.inl rfl, trivial⟩⟩⟩
  · refine ax_Wp.go (f' := (15, [some (.ref 130), some (.int s1.1), none], [.int (nI 2), .int s1.1, .ref 130, .int s1.1, .ref 135])) 6 rfl ?_
    refine bnd hD (fun x3 hx hD => ?_)
    refine ax_Wp.callE (f' := (18, [some (.ref 130), some (.int s1.1), none], [.int s1.1, .ref 135])) rfl rfl (w_150 (d := d + 2) hx) rfl ?_
    refine ax_Wp.go (f' := (19, [some (.ref 130), some (.int s1.1), none], [.int (-1), .int x3, .int s1.1, .ref 135])) 1 rfl ?_
    refine bnd hD (fun v4 hx hD => ?_)
    refine ax_Wp.jn (F := (27, [some (.ref 130), some (.int s1.1), none], [.int v4, .int s1.1, .ref 135])) (hh := stt s1.2) ?_ (fun kkv4 => ?_)
    · refine ax_Wp.wrI hD rfl rfl (fun _ => rfl) (fun m5 hD => ?_)
      refine ax_Wp.go (f' := (2, [some (.ref 130), some (.int (s1.1 + (nI 1))), none], [])) 2 rfl ?_
      obtain rfl := inj hD
      exact ks1.i
    clear hD
    have hD := hx
    clear hx
    refine ax_Wp.brD hD rfl (fun _ hD => ?_) (fun _ hD => ?_)
    · refine ax_Wp.go (f' := (27, [some (.ref 130), some (.int s1.1), none], [.int (nI 1), .int s1.1, .ref 135])) 2 rfl ?_
      obtain rfl := inj hD
      exact kkv4
    · refine ax_Wp.go (f' := (27, [some (.ref 130), some (.int s1.1), none], [.int (nI 0), .int s1.1, .ref 135])) 1 rfl ?_
      obtain rfl := inj hD
      exact kkv4
