/-! WHAT METHODS DO, printed of their bytecode: 13 -/
def D216 (m : dM) (p0 : Int32) : Option (Int32 × dM) := (D148 m p0).bind fun (x1 : Int32) => Option.bind ((if x1 = (nI 0) then some (nI 1) else some (nI 0)) : Option (Int32)) fun (v2 : Int32) => (fI m 130 7 v2).bind fun (m3 : dM) => Option.bind ((if (rI m3 130 7) = (nI 0) then (D152 m3 p0 (nI 4)).bind fun (x5 : Int32) => if x5 = (nI 2) then some (nI 1) else some (nI 0) else some (nI 0)) : Option (Int32)) fun (v4 : Int32) => (gB v4).bind fun (b6 : Int32) => some (b6, m3)
set_option maxRecDepth 20000 in
theorem w_216 {X : Nat × (Nat → Int32)} {d : Nat} {m : dM} {p0 : Int32} {r : Int32 × dM} (hD : D216 m p0 = some r) : ax_Ev X (d + 3) 216 [.ref 130, .int p0] (stt m) (.inl (some (.int r.1))) (stt r.2) := by
  unfold D216 at hD
  show ax_Wp X (d + 2 + 1) 216 (0, [some (.ref 130), some (.int p0)], []) (stt m) _
  refine ax_Wp.go (f' := (3, [some (.ref 130), some (.int p0)], [.int p0, .ref 130, .ref 130])) 3 rfl ?_
  refine bnd hD (fun x1 hx hD => ?_)
  refine ax_Wp.callE (f' := (6, [some (.ref 130), some (.int p0)], [.ref 130])) rfl rfl (w_148 (d := d + 0) hx) rfl ?_
  refine bnd hD (fun v2 hx hD => ?_)
  refine ax_Wp.jn (F := (14, [some (.ref 130), some (.int p0)], [.int v2, .ref 130])) (hh := stt m) ?_ (fun kkv2 => ?_)
  · refine ax_Wp.ptI hD rfl rfl rfl (fun m3 hD => ?_)
    refine ax_Wp.go (f' := (21, [some (.ref 130), some (.int p0)], [.int (rI m3 130 7)])) 2 rfl ?_
    refine bnd hD (fun v4 hx hD => ?_)
    refine ax_Wp.jn (F := (39, [some (.ref 130), none], [.int v4])) (hh := stt m3) ?_ (fun kkv4 => ?_)
    · refine ax_Wp.retB hD rfl (fun b6 hD => ?_)
      obtain rfl := inj hD
      exact ⟨rfl, rfl⟩
    clear hD
    have hD := hx
    clear hx
    refine ax_Wp.brD hD rfl (fun _ hD => ?_) (fun _ hD => ?_)
    · refine ax_Wp.go (f' := (27, [some (.ref 130), some (.int p0)], [.int (nI 4), .int p0, .ref 130])) 3 rfl ?_
      refine bnd hD (fun x5 hx hD => ?_)
      refine ax_Wp.callE (f' := (30, [some (.ref 130), some (.int p0)], [])) rfl rfl (w_152 (d := d + 1) hx) rfl ?_
      refine ax_Wp.go (f' := (31, [some (.ref 130), some (.int p0)], [.int (nI 2), .int x5])) 1 rfl ?_
      refine ax_Wp.brD hD rfl (fun _ hD => ?_) (fun _ hD => ?_)
      · refine ax_Wp.go (f' := (39, [some (.ref 130), some (.int p0)], [.int (nI 1)])) 2 rfl ?_
        obtain rfl := inj hD
        exact ax_Wp.dead kkv4 ⟨.inl rfl, ⟨.inr ⟨rfl, trivial⟩, trivial⟩⟩
      · refine ax_Wp.go (f' := (39, [some (.ref 130), some (.int p0)], [.int (nI 0)])) 1 rfl ?_
        obtain rfl := inj hD
        exact ax_Wp.dead kkv4 ⟨.inl rfl, ⟨.inr ⟨rfl, trivial⟩, trivial⟩⟩
    · refine ax_Wp.go (f' := (39, [some (.ref 130), some (.int p0)], [.int (nI 0)])) 1 rfl ?_
      obtain rfl := inj hD
      exact ax_Wp.dead kkv4 ⟨.inl rfl, ⟨.inr ⟨rfl, trivial⟩, trivial⟩⟩
  clear hD
  have hD := hx
  clear hx
  refine ax_Wp.brD hD rfl (fun _ hD => ?_) (fun _ hD => ?_)
  · refine ax_Wp.go (f' := (14, [some (.ref 130), some (.int p0)], [.int (nI 1), .ref 130])) 1 rfl ?_
    obtain rfl := inj hD
    exact kkv2
  · refine ax_Wp.go (f' := (14, [some (.ref 130), some (.int p0)], [.int (nI 0), .ref 130])) 2 rfl ?_
    obtain rfl := inj hD
    exact kkv2
def D217 (m : dM) (p0 : Int32) : Option (Int32 × dM) := (fI m 130 7 (nI 0)).bind fun (m1 : dM) => (D148 m1 p0).bind fun (x2 : Int32) => Option.bind ((if x2 = (nI 0) then (D143 m1 (nI 1)).bind fun (r4 : Int32 × dM) => some (r4.1, r4.2) else (D152 m1 p0 (nI 4)).bind fun (x5 : Int32) => if x5 = (nI 0) then (D143 m1 (nI 2)).bind fun (r6 : Int32 × dM) => some (r6.1, r6.2) else (D152 m1 p0 (nI 5)).bind fun (x7 : Int32) => some (x7, m1)) : Option (Int32 × dM)) fun (v3 : Int32 × dM) => some (v3.1, v3.2)
set_option maxRecDepth 20000 in
theorem w_217 {X : Nat × (Nat → Int32)} {d : Nat} {m : dM} {p0 : Int32} {r : Int32 × dM} (hD : D217 m p0 = some r) : ax_Ev X (d + 3) 217 [.ref 130, .int p0] (stt m) (.inl (some (.int r.1))) (stt r.2) := by
  unfold D217 at hD
  show ax_Wp X (d + 2 + 1) 217 (0, [some (.ref 130), some (.int p0)], []) (stt m) _
  refine ax_Wp.go (f' := (2, [some (.ref 130), some (.int p0)], [.int (nI 0), .ref 130])) 2 rfl ?_
  refine ax_Wp.ptI hD rfl rfl rfl (fun m1 hD => ?_)
  refine ax_Wp.go (f' := (7, [some (.ref 130), some (.int p0)], [.int p0, .ref 130])) 2 rfl ?_
  refine bnd hD (fun x2 hx hD => ?_)
  refine ax_Wp.callE (f' := (10, [some (.ref 130), some (.int p0)], [])) rfl rfl (w_148 (d := d + 0) hx) rfl ?_
  refine bnd hD (fun v3 hx hD => ?_)
  refine ax_Wp.jn (F := (44, [some (.ref 130), none], [.int v3.1])) (hh := stt v3.2) ?_ (fun kkv3 => ?_)
  · obtain rfl := inj hD
    exact ax_Wp.ret rfl ⟨rfl, rfl⟩
  clear hD
  have hD := hx
  clear hx
  refine ax_Wp.brD hD rfl (fun _ hD => ?_) (fun _ hD => ?_)
  · refine ax_Wp.go (f' := (15, [some (.ref 130), some (.int p0)], [.int (nI 1), .ref 130])) 2 rfl ?_
    refine bnd hD (fun r4 hx hD => ?_)
    refine ax_Wp.callE (f' := (18, [some (.ref 130), some (.int p0)], [])) rfl rfl (w_143 (d := d + 1) hx) rfl ?_
    refine ax_Wp.go (f' := (44, [some (.ref 130), some (.int p0)], [.int r4.1])) 1 rfl ?_
    obtain rfl := inj hD
    exact ax_Wp.dead kkv3 ⟨.inl rfl, ⟨.inr ⟨rfl, trivial⟩, trivial⟩⟩
  · refine ax_Wp.go (f' := (24, [some (.ref 130), some (.int p0)], [.int (nI 4), .int p0, .ref 130])) 3 rfl ?_
    refine bnd hD (fun x5 hx hD => ?_)
    refine ax_Wp.callE (f' := (27, [some (.ref 130), some (.int p0)], [])) rfl rfl (w_152 (d := d + 1) hx) rfl ?_
    refine ax_Wp.brD hD rfl (fun _ hD => ?_) (fun _ hD => ?_)
    · refine ax_Wp.go (f' := (32, [some (.ref 130), some (.int p0)], [.int (nI 2), .ref 130])) 2 rfl ?_
      refine bnd hD (fun r6 hx hD => ?_)
      refine ax_Wp.callE (f' := (35, [some (.ref 130), some (.int p0)], [])) rfl rfl (w_143 (d := d + 1) hx) rfl ?_
      refine ax_Wp.go (f' := (44, [some (.ref 130), some (.int p0)], [.int r6.1])) 1 rfl ?_
      obtain rfl := inj hD
      exact ax_Wp.dead kkv3 ⟨.inl rfl, ⟨.inr ⟨rfl, trivial⟩, trivial⟩⟩
    · refine ax_Wp.go (f' := (41, [some (.ref 130), some (.int p0)], [.int (nI 5), .int p0, .ref 130])) 3 rfl ?_
      refine bnd hD (fun x7 hx hD => ?_)
      refine ax_Wp.callE (f' := (44, [some (.ref 130), some (.int p0)], [])) rfl rfl (w_152 (d := d + 1) hx) rfl ?_
      obtain rfl := inj hD
      exact ax_Wp.dead kkv3 ⟨.inl rfl, ⟨.inr ⟨rfl, trivial⟩, trivial⟩⟩
def D218 (m : dM) (p0 : Int32) : Option (Int32) := (D152 m p0 (nI 4)).bind fun (x1 : Int32) => Option.bind ((if x1 = (nI 0) then (D152 m p0 (nI 0)).bind fun (x3 : Int32) => some x3 else (D152 m p0 (nI 4)).bind fun (x4 : Int32) => if x4 = (nI 1) then (D152 m p0 (nI 5)).bind fun (x5 : Int32) => (D150 m x5 (nI 0)).bind fun (x6 : Int32) => some x6 else (D152 m p0 (nI 1)).bind fun (x7 : Int32) => some x7) : Option (Int32)) fun (v2 : Int32) => some v2
set_option maxRecDepth 20000 in
theorem w_218 {X : Nat × (Nat → Int32)} {d : Nat} {m : dM} {p0 : Int32} {r : Int32} (hD : D218 m p0 = some r) : ax_Ev X (d + 2) 218 [.ref 130, .int p0] (stt m) (.inl (some (.int r))) (stt m) := by
  unfold D218 at hD
  show ax_Wp X (d + 1 + 1) 218 (0, [some (.ref 130), some (.int p0)], []) (stt m) _
  refine ax_Wp.go (f' := (3, [some (.ref 130), some (.int p0)], [.int (nI 4), .int p0, .ref 130])) 3 rfl ?_
  refine bnd hD (fun x1 hx hD => ?_)
  refine ax_Wp.callE (f' := (6, [some (.ref 130), some (.int p0)], [])) rfl rfl (w_152 (d := d + 0) hx) rfl ?_
  refine bnd hD (fun v2 hx hD => ?_)
  refine ax_Wp.jn (F := (48, [some (.ref 130), none], [.int v2])) (hh := stt m) ?_ (fun kkv2 => ?_)
  · obtain rfl := inj hD
    exact ax_Wp.ret rfl ⟨rfl, rfl⟩
  clear hD
  have hD := hx
  clear hx
  refine ax_Wp.brD hD rfl (fun _ hD => ?_) (fun _ hD => ?_)
  · refine ax_Wp.go (f' := (12, [some (.ref 130), some (.int p0)], [.int (nI 0), .int p0, .ref 130])) 3 rfl ?_
    refine bnd hD (fun x3 hx hD => ?_)
    refine ax_Wp.callE (f' := (15, [some (.ref 130), some (.int p0)], [])) rfl rfl (w_152 (d := d + 0) hx) rfl ?_
    refine ax_Wp.go (f' := (48, [some (.ref 130), some (.int p0)], [.int x3])) 1 rfl ?_
    obtain rfl := inj hD
    exact ax_Wp.dead kkv2 ⟨.inl rfl, ⟨.inr ⟨rfl, trivial⟩, trivial⟩⟩
  · refine ax_Wp.go (f' := (21, [some (.ref 130), some (.int p0)], [.int (nI 4), .int p0, .ref 130])) 3 rfl ?_
    refine bnd hD (fun x4 hx hD => ?_)
    refine ax_Wp.callE (f' := (24, [some (.ref 130), some (.int p0)], [])) rfl rfl (w_152 (d := d + 0) hx) rfl ?_
    refine ax_Wp.go (f' := (25, [some (.ref 130), some (.int p0)], [.int (nI 1), .int x4])) 1 rfl ?_
    refine ax_Wp.brD hD rfl (fun _ hD => ?_) (fun _ hD => ?_)
    · refine ax_Wp.go (f' := (32, [some (.ref 130), some (.int p0)], [.int (nI 5), .int p0, .ref 130, .ref 130])) 4 rfl ?_
      refine bnd hD (fun x5 hx hD => ?_)
      refine ax_Wp.callE (f' := (35, [some (.ref 130), some (.int p0)], [.ref 130])) rfl rfl (w_152 (d := d + 0) hx) rfl ?_
      refine ax_Wp.go (f' := (36, [some (.ref 130), some (.int p0)], [.int (nI 0), .int x5, .ref 130])) 1 rfl ?_
      refine bnd hD (fun x6 hx hD => ?_)
      refine ax_Wp.callE (f' := (39, [some (.ref 130), some (.int p0)], [])) rfl rfl (w_150 (d := d + 0) hx) rfl ?_
      refine ax_Wp.go (f' := (48, [some (.ref 130), some (.int p0)], [.int x6])) 1 rfl ?_
      obtain rfl := inj hD
      exact ax_Wp.dead kkv2 ⟨.inl rfl, ⟨.inr ⟨rfl, trivial⟩, trivial⟩⟩
    · refine ax_Wp.go (f' := (45, [some (.ref 130), some (.int p0)], [.int (nI 1), .int p0, .ref 130])) 3 rfl ?_
      refine bnd hD (fun x7 hx hD => ?_)
      refine ax_Wp.callE (f' := (48, [some (.ref 130), some (.int p0)], [])) rfl rfl (w_152 (d := d + 0) hx) rfl ?_
      obtain rfl := inj hD
      exact ax_Wp.dead kkv2 ⟨.inl rfl, ⟨.inr ⟨rfl, trivial⟩, trivial⟩⟩
def D219 (m : dM) (p0 : Int32) : Option (Int32 × dM) := (fI m 130 7 (nI 0)).bind fun (m1 : dM) => (D148 m1 p0).bind fun (x2 : Int32) => Option.bind ((if x2 = (nI 0) then (D143 m1 (nI 1)).bind fun (r4 : Int32 × dM) => some (r4.1, r4.2) else (D218 m1 p0).bind fun (x5 : Int32) => some (x5, m1)) : Option (Int32 × dM)) fun (v3 : Int32 × dM) => some (v3.1, v3.2)
set_option maxRecDepth 20000 in
theorem w_219 {X : Nat × (Nat → Int32)} {d : Nat} {m : dM} {p0 : Int32} {r : Int32 × dM} (hD : D219 m p0 = some r) : ax_Ev X (d + 3) 219 [.ref 130, .int p0] (stt m) (.inl (some (.int r.1))) (stt r.2) := by
  unfold D219 at hD
  show ax_Wp X (d + 2 + 1) 219 (0, [some (.ref 130), some (.int p0)], []) (stt m) _
  refine ax_Wp.go (f' := (2, [some (.ref 130), some (.int p0)], [.int (nI 0), .ref 130])) 2 rfl ?_
  refine ax_Wp.ptI hD rfl rfl rfl (fun m1 hD => ?_)
  refine ax_Wp.go (f' := (7, [some (.ref 130), some (.int p0)], [.int p0, .ref 130])) 2 rfl ?_
  refine bnd hD (fun x2 hx hD => ?_)
  refine ax_Wp.callE (f' := (10, [some (.ref 130), some (.int p0)], [])) rfl rfl (w_148 (d := d + 0) hx) rfl ?_
  refine bnd hD (fun v3 hx hD => ?_)
  refine ax_Wp.jn (F := (26, [some (.ref 130), none], [.int v3.1])) (hh := stt v3.2) ?_ (fun kkv3 => ?_)
  · obtain rfl := inj hD
    exact ax_Wp.ret rfl ⟨rfl, rfl⟩
  clear hD
  have hD := hx
  clear hx
  refine ax_Wp.brD hD rfl (fun _ hD => ?_) (fun _ hD => ?_)
  · refine ax_Wp.go (f' := (23, [some (.ref 130), some (.int p0)], [.int (nI 1), .ref 130])) 2 rfl ?_
    refine bnd hD (fun r4 hx hD => ?_)
    refine ax_Wp.callE (f' := (26, [some (.ref 130), some (.int p0)], [])) rfl rfl (w_143 (d := d + 1) hx) rfl ?_
    obtain rfl := inj hD
    exact ax_Wp.dead kkv3 ⟨.inl rfl, ⟨.inr ⟨rfl, trivial⟩, trivial⟩⟩
  · refine ax_Wp.go (f' := (15, [some (.ref 130), some (.int p0)], [.int p0, .ref 130])) 2 rfl ?_
    refine bnd hD (fun x5 hx hD => ?_)
    refine ax_Wp.callE (f' := (18, [some (.ref 130), some (.int p0)], [])) rfl rfl (w_218 (d := d + 0) hx) rfl ?_
    refine ax_Wp.go (f' := (26, [some (.ref 130), some (.int p0)], [.int x5])) 1 rfl ?_
    obtain rfl := inj hD
    exact ax_Wp.dead kkv3 ⟨.inl rfl, ⟨.inr ⟨rfl, trivial⟩, trivial⟩⟩
def D220 (m : dM) (p0 : Int32) : Option (Int32 × dM) := (fI m 130 7 (nI 0)).bind fun (m1 : dM) => (D144 p0 (nI 0) (nI 1)).bind fun (x2 : Int32) => Option.bind ((if x2 = (nI 0) then (D143 m1 (nI 1)).bind fun (r4 : Int32 × dM) => some (r4.1, r4.2) else (gI m1 131 299 ((nI 170) + p0)).bind fun (x5 : Int32) => some (x5, m1)) : Option (Int32 × dM)) fun (v3 : Int32 × dM) => some (v3.1, v3.2)
set_option maxRecDepth 20000 in
theorem w_220 {X : Nat × (Nat → Int32)} {d : Nat} {m : dM} {p0 : Int32} {r : Int32 × dM} (hD : D220 m p0 = some r) : ax_Ev X (d + 2) 220 [.ref 130, .int p0] (stt m) (.inl (some (.int r.1))) (stt r.2) := by
  unfold D220 at hD
  show ax_Wp X (d + 1 + 1) 220 (0, [some (.ref 130), some (.int p0)], []) (stt m) _
  refine ax_Wp.go (f' := (2, [some (.ref 130), some (.int p0)], [.int (nI 0), .ref 130])) 2 rfl ?_
  refine ax_Wp.ptI hD rfl rfl rfl (fun m1 hD => ?_)
  refine ax_Wp.go (f' := (8, [some (.ref 130), some (.int p0)], [.int (nI 1), .int (nI 0), .int p0])) 3 rfl ?_
  refine bnd hD (fun x2 hx hD => ?_)
  refine ax_Wp.callE (f' := (11, [some (.ref 130), some (.int p0)], [])) rfl rfl (w_144 (d := d + 0) hx) rfl ?_
  refine bnd hD (fun v3 hx hD => ?_)
  refine ax_Wp.jn (F := (32, [some (.ref 130), none], [.int v3.1])) (hh := stt v3.2) ?_ (fun kkv3 => ?_)
  · obtain rfl := inj hD
    exact ax_Wp.ret rfl ⟨rfl, rfl⟩
  clear hD
  have hD := hx
  clear hx
  refine ax_Wp.brD hD rfl (fun _ hD => ?_) (fun _ hD => ?_)
  · refine ax_Wp.go (f' := (29, [some (.ref 130), some (.int p0)], [.int (nI 1), .ref 130])) 2 rfl ?_
    refine bnd hD (fun r4 hx hD => ?_)
    refine ax_Wp.callE (f' := (32, [some (.ref 130), some (.int p0)], [])) rfl rfl (w_143 (d := d + 0) hx) rfl ?_
    obtain rfl := inj hD
    exact ax_Wp.dead kkv3 ⟨.inl rfl, ⟨.inr ⟨rfl, trivial⟩, trivial⟩⟩
  · refine ax_Wp.go (f' := (23, [some (.ref 130), some (.int p0)], [.int ((nI 170) + p0), .ref 131])) 5 rfl ?_
    refine ax_Wp.rdI hD rfl rfl rfl (fun x5 hD => ?_)
    refine ax_Wp.go (f' := (32, [some (.ref 130), some (.int p0)], [.int x5])) 1 rfl ?_
    obtain rfl := inj hD
    exact ax_Wp.dead kkv3 ⟨.inl rfl, ⟨.inr ⟨rfl, trivial⟩, trivial⟩⟩
def D221 (m : dM) (p0 : Int32) : Option (Int32 × dM) := (fI m 130 7 (nI 0)).bind fun (m1 : dM) => (D144 p0 (nI 0) (nI 1)).bind fun (x2 : Int32) => Option.bind ((if x2 = (nI 0) then (D143 m1 (nI 1)).bind fun (r4 : Int32 × dM) => some (r4.1, r4.2) else (gI m1 131 299 ((nI 170) + p0)).bind fun (x5 : Int32) => some (x5, m1)) : Option (Int32 × dM)) fun (v3 : Int32 × dM) => some (v3.1, v3.2)
set_option maxRecDepth 20000 in
theorem w_221 {X : Nat × (Nat → Int32)} {d : Nat} {m : dM} {p0 : Int32} {r : Int32 × dM} (hD : D221 m p0 = some r) : ax_Ev X (d + 2) 221 [.ref 130, .int p0] (stt m) (.inl (some (.int r.1))) (stt r.2) := by
  unfold D221 at hD
  show ax_Wp X (d + 1 + 1) 221 (0, [some (.ref 130), some (.int p0)], []) (stt m) _
  refine ax_Wp.go (f' := (2, [some (.ref 130), some (.int p0)], [.int (nI 0), .ref 130])) 2 rfl ?_
  refine ax_Wp.ptI hD rfl rfl rfl (fun m1 hD => ?_)
  refine ax_Wp.go (f' := (8, [some (.ref 130), some (.int p0)], [.int (nI 1), .int (nI 0), .int p0])) 3 rfl ?_
  refine bnd hD (fun x2 hx hD => ?_)
  refine ax_Wp.callE (f' := (11, [some (.ref 130), some (.int p0)], [])) rfl rfl (w_144 (d := d + 0) hx) rfl ?_
  refine bnd hD (fun v3 hx hD => ?_)
  refine ax_Wp.jn (F := (32, [some (.ref 130), none], [.int v3.1])) (hh := stt v3.2) ?_ (fun kkv3 => ?_)
  · obtain rfl := inj hD
    exact ax_Wp.ret rfl ⟨rfl, rfl⟩
  clear hD
  have hD := hx
  clear hx
  refine ax_Wp.brD hD rfl (fun _ hD => ?_) (fun _ hD => ?_)
  · refine ax_Wp.go (f' := (29, [some (.ref 130), some (.int p0)], [.int (nI 1), .ref 130])) 2 rfl ?_
    refine bnd hD (fun r4 hx hD => ?_)
    refine ax_Wp.callE (f' := (32, [some (.ref 130), some (.int p0)], [])) rfl rfl (w_143 (d := d + 0) hx) rfl ?_
    obtain rfl := inj hD
    exact ax_Wp.dead kkv3 ⟨.inl rfl, ⟨.inr ⟨rfl, trivial⟩, trivial⟩⟩
  · refine ax_Wp.go (f' := (23, [some (.ref 130), some (.int p0)], [.int ((nI 170) + p0), .ref 131])) 5 rfl ?_
    refine ax_Wp.rdI hD rfl rfl rfl (fun x5 hD => ?_)
    refine ax_Wp.go (f' := (32, [some (.ref 130), some (.int p0)], [.int x5])) 1 rfl ?_
    obtain rfl := inj hD
    exact ax_Wp.dead kkv3 ⟨.inl rfl, ⟨.inr ⟨rfl, trivial⟩, trivial⟩⟩
def D108 (m : dM) : Option (Int32) := some (rI m 1 7)
set_option maxRecDepth 20000 in
theorem w_108 {X : Nat × (Nat → Int32)} {d : Nat} {m : dM} {r : Int32} (hD : D108 m = some r) : ax_Ev X (d + 1) 108 [.ref 0] (stt m) (.inl (some (.int r))) (stt m) := by
  unfold D108 at hD
  show ax_Wp X (d + 0 + 1) 108 (0, [some (.ref 0)], []) (stt m) _
  refine ax_Wp.go (f' := (7, [some (.ref 0)], [.int (rI m 1 7)])) 3 rfl ?_
  obtain rfl := inj hD
  exact ax_Wp.ret rfl ⟨rfl, rfl⟩
def D222 (m : dM) : Option (Int32 × dM) := (fI m 130 7 (nI 0)).bind fun (m1 : dM) => some (rI m1 131 168, m1)
set_option maxRecDepth 20000 in
theorem w_222 {X : Nat × (Nat → Int32)} {d : Nat} {m : dM} {r : Int32 × dM} (hD : D222 m = some r) : ax_Ev X (d + 1) 222 [.ref 130] (stt m) (.inl (some (.int r.1))) (stt r.2) := by
  unfold D222 at hD
  show ax_Wp X (d + 0 + 1) 222 (0, [some (.ref 130)], []) (stt m) _
  refine ax_Wp.go (f' := (2, [some (.ref 130)], [.int (nI 0), .ref 130])) 2 rfl ?_
  refine ax_Wp.ptI hD rfl rfl rfl (fun m1 hD => ?_)
  refine ax_Wp.go (f' := (13, [some (.ref 130)], [.int (rI m1 131 168)])) 4 rfl ?_
  obtain rfl := inj hD
  exact ax_Wp.ret rfl ⟨rfl, rfl⟩
def D109 (m : dM) : Option (Int32) := some (rI m 1 8)
set_option maxRecDepth 20000 in
theorem w_109 {X : Nat × (Nat → Int32)} {d : Nat} {m : dM} {r : Int32} (hD : D109 m = some r) : ax_Ev X (d + 1) 109 [.ref 0] (stt m) (.inl (some (.int r))) (stt m) := by
  unfold D109 at hD
  show ax_Wp X (d + 0 + 1) 109 (0, [some (.ref 0)], []) (stt m) _
  refine ax_Wp.go (f' := (7, [some (.ref 0)], [.int (rI m 1 8)])) 3 rfl ?_
  obtain rfl := inj hD
  exact ax_Wp.ret rfl ⟨rfl, rfl⟩
def D223 (m : dM) : Option (Int32 × dM) := (fI m 130 7 (nI 0)).bind fun (m1 : dM) => some (rI m1 131 169, m1)
set_option maxRecDepth 20000 in
theorem w_223 {X : Nat × (Nat → Int32)} {d : Nat} {m : dM} {r : Int32 × dM} (hD : D223 m = some r) : ax_Ev X (d + 1) 223 [.ref 130] (stt m) (.inl (some (.int r.1))) (stt r.2) := by
  unfold D223 at hD
  show ax_Wp X (d + 0 + 1) 223 (0, [some (.ref 130)], []) (stt m) _
  refine ax_Wp.go (f' := (2, [some (.ref 130)], [.int (nI 0), .ref 130])) 2 rfl ?_
  refine ax_Wp.ptI hD rfl rfl rfl (fun m1 hD => ?_)
  refine ax_Wp.go (f' := (13, [some (.ref 130)], [.int (rI m1 131 169)])) 4 rfl ?_
  obtain rfl := inj hD
  exact ax_Wp.ret rfl ⟨rfl, rfl⟩
def D110 (m : dM) : Option (Int32) := (D42 m).bind fun (x1 : Int64) => (D24 m x1).bind fun (x2 : Int32) => some x2
set_option maxRecDepth 20000 in
theorem w_110 {X : Nat × (Nat → Int32)} {d : Nat} {m : dM} {r : Int32} (hD : D110 m = some r) : ax_Ev X (d + 2) 110 [.ref 0] (stt m) (.inl (some (.int r))) (stt m) := by
  unfold D110 at hD
  show ax_Wp X (d + 1 + 1) 110 (0, [some (.ref 0)], []) (stt m) _
  refine ax_Wp.go (f' := (11, [some (.ref 0)], [.ref 1, .ref 15])) 5 rfl ?_
  refine bnd hD (fun x1 hx hD => ?_)
  refine ax_Wp.callE (f' := (14, [some (.ref 0)], [.ref 15])) rfl rfl (w_42 (d := d + 0) hx) rfl ?_
  refine bnd hD (fun x2 hx hD => ?_)
  refine ax_Wp.callE (f' := (17, [some (.ref 0)], [])) rfl rfl (w_24 (d := d + 0) hx) rfl ?_
  obtain rfl := inj hD
  exact ax_Wp.ret rfl ⟨rfl, rfl⟩
def D224 (m : dM) : Option (Int32 × dM) := (fI m 130 7 (nI 0)).bind fun (m1 : dM) => (D162 m1).bind fun (x2 : Int32) => (D163 m1).bind fun (x3 : Int32) => (D166 m1 x2 x3).bind fun (x4 : Int32) => some (x4, m1)
set_option maxRecDepth 20000 in
theorem w_224 {X : Nat × (Nat → Int32)} {d : Nat} {m : dM} {r : Int32 × dM} (hD : D224 m = some r) : ax_Ev X (d + 4) 224 [.ref 130] (stt m) (.inl (some (.int r.1))) (stt r.2) := by
  unfold D224 at hD
  show ax_Wp X (d + 3 + 1) 224 (0, [some (.ref 130)], []) (stt m) _
  refine ax_Wp.go (f' := (2, [some (.ref 130)], [.int (nI 0), .ref 130])) 2 rfl ?_
  refine ax_Wp.ptI hD rfl rfl rfl (fun m1 hD => ?_)
  refine ax_Wp.go (f' := (7, [some (.ref 130)], [.ref 130, .ref 130])) 2 rfl ?_
  refine bnd hD (fun x2 hx hD => ?_)
  refine ax_Wp.callE (f' := (10, [some (.ref 130)], [.ref 130])) rfl rfl (w_162 (d := d + 0) hx) rfl ?_
  refine ax_Wp.go (f' := (11, [some (.ref 130)], [.ref 130, .int x2, .ref 130])) 1 rfl ?_
  refine bnd hD (fun x3 hx hD => ?_)
  refine ax_Wp.callE (f' := (14, [some (.ref 130)], [.int x2, .ref 130])) rfl rfl (w_163 (d := d + 0) hx) rfl ?_
  refine bnd hD (fun x4 hx hD => ?_)
  refine ax_Wp.callE (f' := (17, [some (.ref 130)], [])) rfl rfl (w_166 (d := d + 2) hx) rfl ?_
  obtain rfl := inj hD
  exact ax_Wp.ret rfl ⟨rfl, rfl⟩
def D26 (m : dM) (p0 : Int32) : Option (Int32) := lp (β := Int32) 3000 (fun (s1 : Int32) => if p0 ≤ s1 then some (.inr (nI 0)) else if (rI m 15 1) ≤ p0 then some (.inr (nI 0)) else (gL m 16 61 s1).bind fun (x2 : Int64) => (gL m 16 61 p0).bind fun (x3 : Int64) => if (lg_cmp x2 x3) = (nI 0) then some (.inr (nI 1)) else some (.inl (s1 + (nI 1)))) (nI 0)
set_option maxRecDepth 20000 in
theorem w_26 {X : Nat × (Nat → Int32)} {d : Nat} {m : dM} {p0 : Int32} {r : Int32} (hD : D26 m p0 = some r) : ax_Ev X (d + 1) 26 [.ref 15, .int p0] (stt m) (.inl (some (.int r))) (stt m) := by
  unfold D26 at hD
  show ax_Wp X (d + 0 + 1) 26 (0, [some (.ref 15), some (.int p0), none], []) (stt m) _
  refine ax_Wp.go (f' := (2, [some (.ref 15), some (.int p0), some (.int (nI 0))], [])) 2 rfl ?_
  refine ax_Wp.lpD (fun (s1 : Int32) => ((2, [some (.ref 15), some (.int p0), some (.int s1)], []), stt m)) ?_ hD
  clear hD
  intro s1 v hD ks1
  refine ax_Wp.go (f' := (4, [some (.ref 15), some (.int p0), some (.int s1)], [.int p0, .int s1])) 2 rfl ?_
  refine ax_Wp.brD hD rfl (fun _ hD => ?_) (fun _ hD => ?_)
  · refine ax_Wp.go (f' := (40, [some (.ref 15), some (.int p0), some (.int s1)], [.int (nI 0)])) 1 rfl ?_
    obtain rfl := inj hD
    obtain rfl := ks1.o
    exact ax_Wp.ret rfl ⟨rfl, rfl⟩
  · refine ax_Wp.go (f' := (12, [some (.ref 15), some (.int p0), some (.int s1)], [.int (rI m 15 1), .int p0])) 3 rfl ?_
    refine ax_Wp.brD hD rfl (fun _ hD => ?_) (fun _ hD => ?_)
    · refine ax_Wp.go (f' := (40, [some (.ref 15), some (.int p0), some (.int s1)], [.int (nI 0)])) 1 rfl ?_
      obtain rfl := inj hD
      obtain rfl := ks1.o
      exact ax_Wp.ret rfl ⟨rfl, rfl⟩
    · refine ax_Wp.go (f' := (20, [some (.ref 15), some (.int p0), some (.int s1)], [.int s1, .ref 16])) 3 rfl ?_
      refine ax_Wp.rdL hD rfl rfl rfl (fun x2 hD => ?_)
      refine ax_Wp.go (f' := (26, [some (.ref 15), some (.int p0), some (.int s1)], [.int p0, .ref 16, .long x2])) 3 rfl ?_
      refine ax_Wp.rdL hD rfl rfl rfl (fun x3 hD => ?_)
      refine ax_Wp.go (f' := (28, [some (.ref 15), some (.int p0), some (.int s1)], [.int (lg_cmp x2 x3)])) 1 rfl ?_
      refine ax_Wp.brD hD rfl (fun _ hD => ?_) (fun _ hD => ?_)
      · refine ax_Wp.go (f' := (32, [some (.ref 15), some (.int p0), some (.int s1)], [.int (nI 1)])) 1 rfl ?_
        obtain rfl := inj hD
        obtain rfl := ks1.o
        exact ax_Wp.ret rfl ⟨rfl, rfl⟩
      · refine ax_Wp.go (f' := (2, [some (.ref 15), some (.int p0), some (.int (s1 + (nI 1)))], [])) 2 rfl ?_
        obtain rfl := inj hD
        exact ks1.i
def D25 (m : dM) : Option (Int32) := Option.bind (lp (β := Int32) 3000 (fun (s1 : Int32 × Int32) => if (rI m 15 1) ≤ s1.2 then some (.inr s1.1) else (D26 m s1.2).bind fun (x3 : Int32) => Option.bind ((if x3 = (nI 0) then some (s1.1 + (nI 1)) else some s1.1) : Option (Int32)) fun (v4 : Int32) => some (.inl (v4, s1.2 + (nI 1)))) (nI 0, nI 0)) fun (v2 : Int32) => some v2
set_option maxRecDepth 20000 in
theorem w_25 {X : Nat × (Nat → Int32)} {d : Nat} {m : dM} {r : Int32} (hD : D25 m = some r) : ax_Ev X (d + 2) 25 [.ref 15] (stt m) (.inl (some (.int r))) (stt m) := by
  unfold D25 at hD
  show ax_Wp X (d + 1 + 1) 25 (0, [some (.ref 15), none, none], []) (stt m) _
  refine ax_Wp.go (f' := (4, [some (.ref 15), some (.int (nI 0)), some (.int (nI 0))], [])) 4 rfl ?_
  refine bnd hD (fun v2 hx hD => ?_)
  refine ax_Wp.jn (F := (29, [some (.ref 15), some (.int v2), none], [])) (hh := stt m) ?_ (fun kkv2 => ?_)
  · refine ax_Wp.go (f' := (30, [some (.ref 15), some (.int v2), none], [.int v2])) 1 rfl ?_
    obtain rfl := inj hD
    exact ax_Wp.ret rfl ⟨rfl, rfl⟩
  clear hD
  refine ax_Wp.lpD (fun (s1 : Int32 × Int32) => ((4, [some (.ref 15), some (.int s1.1), some (.int s1.2)], []), stt m)) ?_ hx
  clear hx
  intro s1 v hD ks1
  refine ax_Wp.go (f' := (9, [some (.ref 15), some (.int s1.1), some (.int s1.2)], [.int (rI m 15 1), .int s1.2])) 3 rfl ?_
  refine ax_Wp.brD hD rfl (fun _ hD => ?_) (fun _ hD => ?_)
  · obtain rfl := inj hD
    obtain rfl := ks1.o
    exact ax_Wp.dead kkv2 ⟨.inl rfl, ⟨.inl rfl, ⟨.inr ⟨rfl, trivial⟩, trivial⟩⟩⟩
  · refine ax_Wp.go (f' := (14, [some (.ref 15), some (.int s1.1), some (.int s1.2)], [.int s1.2, .ref 15])) 2 rfl ?_
    refine bnd hD (fun x3 hx hD => ?_)
    refine ax_Wp.callE (f' := (17, [some (.ref 15), some (.int s1.1), some (.int s1.2)], [])) rfl rfl (w_26 (d := d + 0) hx) rfl ?_
    refine bnd hD (fun v4 hx hD => ?_)
    refine ax_Wp.jn (F := (23, [some (.ref 15), some (.int v4), some (.int s1.2)], [])) (hh := stt m) ?_ (fun kkv4 => ?_)
    · refine ax_Wp.go (f' := (4, [some (.ref 15), some (.int v4), some (.int (s1.2 + (nI 1)))], [])) 2 rfl ?_
      obtain rfl := inj hD
      exact ks1.i
    clear hD
    have hD := hx
    clear hx
    refine ax_Wp.brD hD rfl (fun _ hD => ?_) (fun _ hD => ?_)
    · refine ax_Wp.go (f' := (23, [some (.ref 15), some (.int (s1.1 + (nI 1))), some (.int s1.2)], [])) 1 rfl ?_
      obtain rfl := inj hD
      exact kkv4
    · obtain rfl := inj hD
      exact kkv4
def D111 (m : dM) : Option (Int32) := (D25 m).bind fun (x1 : Int32) => some x1
set_option maxRecDepth 20000 in
theorem w_111 {X : Nat × (Nat → Int32)} {d : Nat} {m : dM} {r : Int32} (hD : D111 m = some r) : ax_Ev X (d + 3) 111 [.ref 0] (stt m) (.inl (some (.int r))) (stt m) := by
  unfold D111 at hD
  show ax_Wp X (d + 2 + 1) 111 (0, [some (.ref 0)], []) (stt m) _
  refine ax_Wp.go (f' := (7, [some (.ref 0)], [.ref 15])) 3 rfl ?_
  refine bnd hD (fun x1 hx hD => ?_)
  refine ax_Wp.callE (f' := (10, [some (.ref 0)], [])) rfl rfl (w_25 (d := d + 0) hx) rfl ?_
  obtain rfl := inj hD
  exact ax_Wp.ret rfl ⟨rfl, rfl⟩
def D167 (m : dM) : Option (Int32) := Option.bind (lp (β := Int32) 3000 (fun (s1 : Int32 × Int32) => if (rI m 131 174) ≤ s1.2 then some (.inr s1.1) else Option.bind (lp (β := Int32) 3000 (fun (s3 : Int32 × Int32) => if s1.2 ≤ s3.2 then some (.inr s3.1) else Option.bind ((if s3.1 = (nI 0) then some (nI 0) else (gI m 131 299 ((nI 175) + ((nI 2) * s1.2))).bind fun (x6 : Int32) => (gI m 131 299 ((nI 175) + ((nI 2) * s3.2))).bind fun (x7 : Int32) => if x6 = x7 then (gI m 131 299 (((nI 175) + ((nI 2) * s1.2)) + (nI 1))).bind fun (x8 : Int32) => (gI m 131 299 (((nI 175) + ((nI 2) * s3.2)) + (nI 1))).bind fun (x9 : Int32) => if x8 = x9 then some (nI 0) else some (nI 1) else some (nI 1)) : Option (Int32)) fun (v5 : Int32) => some (.inl (v5, s3.2 + (nI 1)))) (nI 1, nI 0)) fun (v4 : Int32) => Option.bind ((if v4 = (nI 0) then some (nI 0) else some (nI 1)) : Option (Int32)) fun (v10 : Int32) => some (.inl (s1.1 + v10, s1.2 + (nI 1)))) (nI 0, nI 0)) fun (v2 : Int32) => some v2
set_option maxRecDepth 20000 in
theorem w_167 {X : Nat × (Nat → Int32)} {d : Nat} {m : dM} {r : Int32} (hD : D167 m = some r) : ax_Ev X (d + 1) 167 [.ref 130] (stt m) (.inl (some (.int r))) (stt m) := by
  unfold D167 at hD
  show ax_Wp X (d + 0 + 1) 167 (0, [some (.ref 130), none, none, none, none], []) (stt m) _
  refine ax_Wp.go (f' := (4, [some (.ref 130), some (.int (nI 0)), some (.int (nI 0)), none, none], [])) 4 rfl ?_
  refine bnd hD (fun v2 hx hD => ?_)
  refine ax_Wp.jn (F := (121, [some (.ref 130), some (.int v2), none, none, none], [])) (hh := stt m) ?_ (fun kkv2 => ?_)
  · refine ax_Wp.go (f' := (122, [some (.ref 130), some (.int v2), none, none, none], [.int v2])) 1 rfl ?_
    obtain rfl := inj hD
    exact ax_Wp.ret rfl ⟨rfl, rfl⟩
  clear hD
  refine ax_Wp.lpD (fun (s1 : Int32 × Int32) => ((4, [some (.ref 130), some (.int s1.1), some (.int s1.2), none, none], []), stt m)) ?_ hx
  clear hx
  intro s1 v hD ks1
  refine ax_Wp.go (f' := (13, [some (.ref 130), some (.int s1.1), some (.int s1.2), none, none], [.int (rI m 131 174), .int s1.2])) 5 rfl ?_
  refine ax_Wp.brD hD rfl (fun _ hD => ?_) (fun _ hD => ?_)
  · obtain rfl := inj hD
    obtain rfl := ks1.o
    exact ax_Wp.dead kkv2 ⟨.inl rfl, ⟨.inl rfl, ⟨.inr ⟨rfl, trivial⟩, ⟨.inl rfl, ⟨.inl rfl, trivial⟩⟩⟩⟩⟩
  · refine ax_Wp.go (f' := (21, [some (.ref 130), some (.int s1.1), some (.int s1.2), some (.int (nI 1)), some (.int (nI 0))], [])) 4 rfl ?_
    refine bnd hD (fun v4 hx hD => ?_)
    refine ax_Wp.jn (F := (103, [some (.ref 130), some (.int s1.1), some (.int s1.2), some (.int v4), none], [])) (hh := stt m) ?_ (fun kkv4 => ?_)
    · refine ax_Wp.go (f' := (105, [some (.ref 130), some (.int s1.1), some (.int s1.2), some (.int v4), none], [.int v4, .int s1.1])) 2 rfl ?_
      refine bnd hD (fun v10 hx hD => ?_)
      refine ax_Wp.jn (F := (113, [some (.ref 130), none, some (.int s1.2), none, none], [.int v10, .int s1.1])) (hh := stt m) ?_ (fun kkv10 => ?_)
      · refine ax_Wp.go (f' := (4, [some (.ref 130), some (.int (s1.1 + v10)), some (.int (s1.2 + (nI 1))), none, none], [])) 4 rfl ?_
        obtain rfl := inj hD
        exact ks1.i
      clear hD
      have hD := hx
      clear hx
      refine ax_Wp.brD hD rfl (fun _ hD => ?_) (fun _ hD => ?_)
      · refine ax_Wp.go (f' := (113, [some (.ref 130), some (.int s1.1), some (.int s1.2), some (.int v4), none], [.int (nI 0), .int s1.1])) 1 rfl ?_
        obtain rfl := inj hD
        exact ax_Wp.dead kkv10 ⟨.inl rfl, ⟨.inr ⟨rfl, trivial⟩, ⟨.inl rfl, ⟨.inr ⟨rfl, trivial⟩, ⟨.inl rfl, trivial⟩⟩⟩⟩⟩
      · refine ax_Wp.go (f' := (113, [some (.ref 130), some (.int s1.1), some (.int s1.2), some (.int v4), none], [.int (nI 1), .int s1.1])) 2 rfl ?_
        obtain rfl := inj hD
        exact ax_Wp.dead kkv10 ⟨.inl rfl, ⟨.inr ⟨rfl, trivial⟩, ⟨.inl rfl, ⟨.inr ⟨rfl, trivial⟩, ⟨.inl rfl, trivial⟩⟩⟩⟩⟩
    clear hD
    refine ax_Wp.lpD (fun (s3 : Int32 × Int32) => ((21, [some (.ref 130), some (.int s1.1), some (.int s1.2), some (.int s3.1), some (.int s3.2)], []), stt m)) ?_ hx
    clear hx
    intro s3 v hD ks3
    refine ax_Wp.go (f' := (24, [some (.ref 130), some (.int s1.1), some (.int s1.2), some (.int s3.1), some (.int s3.2)], [.int s1.2, .int s3.2])) 2 rfl ?_
    refine ax_Wp.brD hD rfl (fun _ hD => ?_) (fun _ hD => ?_)
    · obtain rfl := inj hD
      obtain rfl := ks3.o
      exact ax_Wp.dead kkv4 ⟨.inl rfl, ⟨.inl rfl, ⟨.inl rfl, ⟨.inl rfl, ⟨.inr ⟨rfl, trivial⟩, trivial⟩⟩⟩⟩⟩
    · refine ax_Wp.go (f' := (28, [some (.ref 130), some (.int s1.1), some (.int s1.2), some (.int s3.1), some (.int s3.2)], [.int s3.1])) 1 rfl ?_
      refine bnd hD (fun v5 hx hD => ?_)
      refine ax_Wp.jn (F := (96, [some (.ref 130), some (.int s1.1), some (.int s1.2), none, some (.int s3.2)], [.int v5])) (hh := stt m) ?_ (fun kkv5 => ?_)
      · refine ax_Wp.go (f' := (21, [some (.ref 130), some (.int s1.1), some (.int s1.2), some (.int v5), some (.int (s3.2 + (nI 1)))], [])) 3 rfl ?_
        obtain rfl := inj hD
        exact ks3.i
      clear hD
      have hD := hx
      clear hx
      refine ax_Wp.brD hD rfl (fun _ hD => ?_) (fun _ hD => ?_)
      · refine ax_Wp.go (f' := (96, [some (.ref 130), some (.int s1.1), some (.int s1.2), some (.int s3.1), some (.int s3.2)], [.int (nI 0)])) 1 rfl ?_
        obtain rfl := inj hD
        exact ax_Wp.dead kkv5 ⟨.inl rfl, ⟨.inl rfl, ⟨.inl rfl, ⟨.inr ⟨rfl, trivial⟩, ⟨.inl rfl, trivial⟩⟩⟩⟩⟩
      · refine ax_Wp.go (f' := (42, [some (.ref 130), some (.int s1.1), some (.int s1.2), some (.int s3.1), some (.int s3.2)], [.int ((nI 175) + ((nI 2) * s1.2)), .ref 131])) 7 rfl ?_
        refine ax_Wp.rdI hD rfl rfl rfl (fun x6 hD => ?_)
        refine ax_Wp.go (f' := (55, [some (.ref 130), some (.int s1.1), some (.int s1.2), some (.int s3.1), some (.int s3.2)], [.int ((nI 175) + ((nI 2) * s3.2)), .ref 131, .int x6])) 7 rfl ?_
        refine ax_Wp.rdI hD rfl rfl rfl (fun x7 hD => ?_)
        refine ax_Wp.brD hD rfl (fun _ hD => ?_) (fun _ hD => ?_)
        · refine ax_Wp.go (f' := (72, [some (.ref 130), some (.int s1.1), some (.int s1.2), some (.int s3.1), some (.int s3.2)], [.int (((nI 175) + ((nI 2) * s1.2)) + (nI 1)), .ref 131])) 9 rfl ?_
          refine ax_Wp.rdI hD rfl rfl rfl (fun x8 hD => ?_)
          refine ax_Wp.go (f' := (87, [some (.ref 130), some (.int s1.1), some (.int s1.2), some (.int s3.1), some (.int s3.2)], [.int (((nI 175) + ((nI 2) * s3.2)) + (nI 1)), .ref 131, .int x8])) 9 rfl ?_
          refine ax_Wp.rdI hD rfl rfl rfl (fun x9 hD => ?_)
          refine ax_Wp.brD hD rfl (fun _ hD => ?_) (fun _ hD => ?_)
          · refine ax_Wp.go (f' := (96, [some (.ref 130), some (.int s1.1), some (.int s1.2), some (.int s3.1), some (.int s3.2)], [.int (nI 0)])) 1 rfl ?_
            obtain rfl := inj hD
            exact ax_Wp.dead kkv5 ⟨.inl rfl, ⟨.inl rfl, ⟨.inl rfl, ⟨.inr ⟨rfl, trivial⟩, ⟨.inl rfl, trivial⟩⟩⟩⟩⟩
          · refine ax_Wp.go (f' := (96, [some (.ref 130), some (.int s1.1), some (.int s1.2), some (.int s3.1), some (.int s3.2)], [.int (nI 1)])) 2 rfl ?_
            obtain rfl := inj hD
            exact ax_Wp.dead kkv5 ⟨.inl rfl, ⟨.inl rfl, ⟨.inl rfl, ⟨.inr ⟨rfl, trivial⟩, ⟨.inl rfl, trivial⟩⟩⟩⟩⟩
        · refine ax_Wp.go (f' := (96, [some (.ref 130), some (.int s1.1), some (.int s1.2), some (.int s3.1), some (.int s3.2)], [.int (nI 1)])) 2 rfl ?_
          obtain rfl := inj hD
          exact ax_Wp.dead kkv5 ⟨.inl rfl, ⟨.inl rfl, ⟨.inl rfl, ⟨.inr ⟨rfl, trivial⟩, ⟨.inl rfl, trivial⟩⟩⟩⟩⟩
def D225 (m : dM) : Option (Int32 × dM) := (fI m 130 7 (nI 0)).bind fun (m1 : dM) => (D167 m1).bind fun (x2 : Int32) => some (x2, m1)
set_option maxRecDepth 20000 in
theorem w_225 {X : Nat × (Nat → Int32)} {d : Nat} {m : dM} {r : Int32 × dM} (hD : D225 m = some r) : ax_Ev X (d + 2) 225 [.ref 130] (stt m) (.inl (some (.int r.1))) (stt r.2) := by
  unfold D225 at hD
  show ax_Wp X (d + 1 + 1) 225 (0, [some (.ref 130)], []) (stt m) _
  refine ax_Wp.go (f' := (2, [some (.ref 130)], [.int (nI 0), .ref 130])) 2 rfl ?_
  refine ax_Wp.ptI hD rfl rfl rfl (fun m1 hD => ?_)
  refine ax_Wp.go (f' := (6, [some (.ref 130)], [.ref 130])) 1 rfl ?_
  refine bnd hD (fun x2 hx hD => ?_)
  refine ax_Wp.callE (f' := (9, [some (.ref 130)], [])) rfl rfl (w_167 (d := d + 0) hx) rfl ?_
  obtain rfl := inj hD
  exact ax_Wp.ret rfl ⟨rfl, rfl⟩
def D112 (m : dM) : Option (Int32) := (D44 m).bind fun (x1 : Int32) => some x1
set_option maxRecDepth 20000 in
theorem w_112 {X : Nat × (Nat → Int32)} {d : Nat} {m : dM} {r : Int32} (hD : D112 m = some r) : ax_Ev X (d + 3) 112 [.ref 0] (stt m) (.inl (some (.int r))) (stt m) := by
  unfold D112 at hD
  show ax_Wp X (d + 2 + 1) 112 (0, [some (.ref 0)], []) (stt m) _
  refine ax_Wp.go (f' := (4, [some (.ref 0)], [.ref 1])) 2 rfl ?_
  refine bnd hD (fun x1 hx hD => ?_)
  refine ax_Wp.callE (f' := (7, [some (.ref 0)], [])) rfl rfl (w_44 (d := d + 0) hx) rfl ?_
  obtain rfl := inj hD
  exact ax_Wp.ret rfl ⟨rfl, rfl⟩
def D226 (m : dM) : Option (Int32 × dM) := (fI m 130 7 (nI 0)).bind fun (m1 : dM) => (D168 m1).bind fun (x2 : Int32) => some (x2, m1)
set_option maxRecDepth 20000 in
theorem w_226 {X : Nat × (Nat → Int32)} {d : Nat} {m : dM} {r : Int32 × dM} (hD : D226 m = some r) : ax_Ev X (d + 5) 226 [.ref 130] (stt m) (.inl (some (.int r.1))) (stt r.2) := by
  unfold D226 at hD
  show ax_Wp X (d + 4 + 1) 226 (0, [some (.ref 130)], []) (stt m) _
  refine ax_Wp.go (f' := (2, [some (.ref 130)], [.int (nI 0), .ref 130])) 2 rfl ?_
  refine ax_Wp.ptI hD rfl rfl rfl (fun m1 hD => ?_)
  refine ax_Wp.go (f' := (6, [some (.ref 130)], [.ref 130])) 1 rfl ?_
  refine bnd hD (fun x2 hx hD => ?_)
  refine ax_Wp.callE (f' := (9, [some (.ref 130)], [])) rfl rfl (w_168 (d := d + 0) hx) rfl ?_
  obtain rfl := inj hD
  exact ax_Wp.ret rfl ⟨rfl, rfl⟩
def D227 (m : dM) (p0 : Int32) (p1 : Int32) : Option (dM) := Option.bind (lp (β := dM) 3000 (fun (s1 : Int32 × dM) => if (nI 10) ≤ s1.1 then some (.inr s1.2) else Option.bind ((if s1.1 = p1 then some (nI 0) else some (-1)) : Option (Int32)) fun (v3 : Int32) => (sI s1.2 137 10 s1.1 v3).bind fun (m4 : dM) => some (.inl (s1.1 + (nI 1), m4))) (nI 0, m)) fun (v2 : dM) => Option.bind (lp (β := dM) 3000 (fun (s5 : Int32 × dM) => if (nI 10) ≤ s5.1 then some (.inr s5.2) else Option.bind (lp (β := dM) 3000 (fun (s7 : Int32 × dM) => if (rI s7.2 131 0) ≤ s7.1 then some (.inr s7.2) else (D157 s7.2 s7.1).bind fun (x9 : Int32) => Option.bind ((if x9 = (nI 0) then some (nI 0) else (D156 s7.2 s7.1).bind fun (x11 : Int32) => if x11 = (nI 0) then some (nI 1) else (D150 s7.2 p0 (nI 1)).bind fun (x12 : Int32) => if x12 = (nI 1) then some (nI 0) else some (nI 1)) : Option (Int32)) fun (v10 : Int32) => Option.bind ((if v10 = (nI 0) then some s7.2 else (D154 s7.2 s7.1).bind fun (x14 : Int32) => (gI s7.2 137 10 x14).bind fun (x15 : Int32) => if x15 = s5.1 then (D155 s7.2 s7.1).bind fun (x16 : Int32) => (gI s7.2 137 10 x16).bind fun (x17 : Int32) => if x17 = (-1) then (D155 s7.2 s7.1).bind fun (x18 : Int32) => (sI s7.2 137 10 x18 (s5.1 + (nI 1))).bind fun (m19 : dM) => some m19 else some s7.2 else some s7.2) : Option (dM)) fun (v13 : dM) => some (.inl (s7.1 + (nI 1), v13))) (nI 0, s5.2)) fun (v8 : dM) => some (.inl (s5.1 + (nI 1), v8))) (nI 0, v2)) fun (v6 : dM) => some v6
set_option maxRecDepth 20000 in
theorem w_227 {X : Nat × (Nat → Int32)} {d : Nat} {m : dM} {p0 : Int32} {p1 : Int32} {r : dM} (hD : D227 m p0 p1 = some r) : ax_Ev X (d + 2) 227 [.ref 130, .int p0, .int p1] (stt m) (.inl none) (stt r) := by
  unfold D227 at hD
  show ax_Wp X (d + 1 + 1) 227 (0, [some (.ref 130), some (.int p0), some (.int p1), none, none, none], []) (stt m) _
  refine ax_Wp.go (f' := (2, [some (.ref 130), some (.int p0), some (.int p1), some (.int (nI 0)), none, none], [])) 2 rfl ?_
  refine bnd hD (fun v2 hx hD => ?_)
  refine ax_Wp.jn (F := (30, [some (.ref 130), some (.int p0), none, none, none, none], [])) (hh := stt v2) ?_ (fun kkv2 => ?_)
  · refine ax_Wp.go (f' := (32, [some (.ref 130), some (.int p0), none, some (.int (nI 0)), none, none], [])) 2 rfl ?_
    refine bnd hD (fun v6 hx hD => ?_)
    refine ax_Wp.jn (F := (148, [some (.ref 130), none, none, none, none, none], [])) (hh := stt v6) ?_ (fun kkv6 => ?_)
    · obtain rfl := inj hD
      exact ax_Wp.ret rfl ⟨rfl, rfl⟩
    clear hD
    refine ax_Wp.lpD (fun (s5 : Int32 × dM) => ((32, [some (.ref 130), some (.int p0), none, some (.int s5.1), none, none], []), stt s5.2)) ?_ hx
    clear hx
    intro s5 v hD ks5
    refine ax_Wp.go (f' := (35, [some (.ref 130), some (.int p0), none, some (.int s5.1), none, none], [.int (nI 10), .int s5.1])) 2 rfl ?_
    refine ax_Wp.brD hD rfl (fun _ hD => ?_) (fun _ hD => ?_)
    · obtain rfl := inj hD
      obtain rfl := ks5.o
      exact ax_Wp.dead kkv6 ⟨.inl rfl, ⟨.inr ⟨rfl, trivial⟩, ⟨.inl rfl, ⟨.inr ⟨rfl, trivial⟩, ⟨.inl rfl, ⟨.inl rfl, trivial⟩⟩⟩⟩⟩⟩
    · refine ax_Wp.go (f' := (41, [some (.ref 130), some (.int p0), none, some (.int s5.1), some (.int (nI 0)), none], [])) 2 rfl ?_
      refine bnd hD (fun v8 hx hD => ?_)
      refine ax_Wp.jn (F := (142, [some (.ref 130), some (.int p0), none, some (.int s5.1), none, none], [])) (hh := stt v8) ?_ (fun kkv8 => ?_)
      · refine ax_Wp.go (f' := (32, [some (.ref 130), some (.int p0), none, some (.int (s5.1 + (nI 1))), none, none], [])) 2 rfl ?_
        obtain rfl := inj hD
        exact ks5.i
      clear hD
      refine ax_Wp.lpD (fun (s7 : Int32 × dM) => ((41, [some (.ref 130), some (.int p0), none, some (.int s5.1), some (.int s7.1), none], []), stt s7.2)) ?_ hx
      clear hx
      intro s7 v hD ks7
      refine ax_Wp.go (f' := (49, [some (.ref 130), some (.int p0), none, some (.int s5.1), some (.int s7.1), none], [.int (rI s7.2 131 0), .int s7.1])) 5 rfl ?_
      refine ax_Wp.brD hD rfl (fun _ hD => ?_) (fun _ hD => ?_)
      · obtain rfl := inj hD
        obtain rfl := ks7.o
        exact ax_Wp.dead kkv8 ⟨.inl rfl, ⟨.inl rfl, ⟨.inl rfl, ⟨.inl rfl, ⟨.inr ⟨rfl, trivial⟩, ⟨.inl rfl, trivial⟩⟩⟩⟩⟩⟩
      · refine ax_Wp.go (f' := (55, [some (.ref 130), some (.int p0), none, some (.int s5.1), some (.int s7.1), none], [.int s7.1, .ref 130])) 2 rfl ?_
        refine bnd hD (fun x9 hx hD => ?_)
        refine ax_Wp.callE (f' := (58, [some (.ref 130), some (.int p0), none, some (.int s5.1), some (.int s7.1), none], [])) rfl rfl (w_157 (d := d + 0) hx) rfl ?_
        refine bnd hD (fun v10 hx hD => ?_)
        refine ax_Wp.jn (F := (85, [some (.ref 130), some (.int p0), none, some (.int s5.1), some (.int s7.1), none], [.int v10])) (hh := stt s7.2) ?_ (fun kkv10 => ?_)
        · refine ax_Wp.go (f' := (89, [some (.ref 130), some (.int p0), none, some (.int s5.1), some (.int s7.1), some (.int v10)], [.int v10])) 2 rfl ?_
          refine bnd hD (fun v13 hx hD => ?_)
          refine ax_Wp.jn (F := (136, [some (.ref 130), some (.int p0), none, some (.int s5.1), some (.int s7.1), none], [])) (hh := stt v13) ?_ (fun kkv13 => ?_)
          · refine ax_Wp.go (f' := (41, [some (.ref 130), some (.int p0), none, some (.int s5.1), some (.int (s7.1 + (nI 1))), none], [])) 2 rfl ?_
            obtain rfl := inj hD
            exact ks7.i
          clear hD
          have hD := hx
          clear hx
          refine ax_Wp.brD hD rfl (fun _ hD => ?_) (fun _ hD => ?_)
          · obtain rfl := inj hD
            exact ax_Wp.dead kkv13 ⟨.inl rfl, ⟨.inl rfl, ⟨.inl rfl, ⟨.inl rfl, ⟨.inl rfl, ⟨.inr ⟨rfl, trivial⟩, trivial⟩⟩⟩⟩⟩⟩
          · refine ax_Wp.go (f' := (99, [some (.ref 130), some (.int p0), none, some (.int s5.1), some (.int s7.1), some (.int v10)], [.int s7.1, .ref 130, .ref 137])) 4 rfl ?_
            refine bnd hD (fun x14 hx hD => ?_)
            refine ax_Wp.callE (f' := (102, [some (.ref 130), some (.int p0), none, some (.int s5.1), some (.int s7.1), some (.int v10)], [.ref 137])) rfl rfl (w_154 (d := d + 0) hx) rfl ?_
            refine ax_Wp.rdI hD rfl rfl rfl (fun x15 hD => ?_)
            refine ax_Wp.go (f' := (104, [some (.ref 130), some (.int p0), none, some (.int s5.1), some (.int s7.1), some (.int v10)], [.int s5.1, .int x15])) 1 rfl ?_
            refine ax_Wp.brD hD rfl (fun _ hD => ?_) (fun _ hD => ?_)
            · refine ax_Wp.go (f' := (114, [some (.ref 130), some (.int p0), none, some (.int s5.1), some (.int s7.1), some (.int v10)], [.int s7.1, .ref 130, .ref 137])) 4 rfl ?_
              refine bnd hD (fun x16 hx hD => ?_)
              refine ax_Wp.callE (f' := (117, [some (.ref 130), some (.int p0), none, some (.int s5.1), some (.int s7.1), some (.int v10)], [.ref 137])) rfl rfl (w_155 (d := d + 0) hx) rfl ?_
              refine ax_Wp.rdI hD rfl rfl rfl (fun x17 hD => ?_)
              refine ax_Wp.go (f' := (119, [some (.ref 130), some (.int p0), none, some (.int s5.1), some (.int s7.1), some (.int v10)], [.int (-1), .int x17])) 1 rfl ?_
              refine ax_Wp.brD hD rfl (fun _ hD => ?_) (fun _ hD => ?_)
              · refine ax_Wp.go (f' := (129, [some (.ref 130), some (.int p0), none, some (.int s5.1), some (.int s7.1), some (.int v10)], [.int s7.1, .ref 130, .ref 137])) 4 rfl ?_
                refine bnd hD (fun x18 hx hD => ?_)
                refine ax_Wp.callE (f' := (132, [some (.ref 130), some (.int p0), none, some (.int s5.1), some (.int s7.1), some (.int v10)], [.ref 137])) rfl rfl (w_155 (d := d + 0) hx) rfl ?_
                refine ax_Wp.go (f' := (135, [some (.ref 130), some (.int p0), none, some (.int s5.1), some (.int s7.1), some (.int v10)], [.int (s5.1 + (nI 1)), .int x18, .ref 137])) 3 rfl ?_
                refine ax_Wp.wrI hD rfl rfl (fun _ => rfl) (fun m19 hD => ?_)
                obtain rfl := inj hD
                exact ax_Wp.dead kkv13 ⟨.inl rfl, ⟨.inl rfl, ⟨.inl rfl, ⟨.inl rfl, ⟨.inl rfl, ⟨.inr ⟨rfl, trivial⟩, trivial⟩⟩⟩⟩⟩⟩
              · obtain rfl := inj hD
                exact ax_Wp.dead kkv13 ⟨.inl rfl, ⟨.inl rfl, ⟨.inl rfl, ⟨.inl rfl, ⟨.inl rfl, ⟨.inr ⟨rfl, trivial⟩, trivial⟩⟩⟩⟩⟩⟩
            · obtain rfl := inj hD
              exact ax_Wp.dead kkv13 ⟨.inl rfl, ⟨.inl rfl, ⟨.inl rfl, ⟨.inl rfl, ⟨.inl rfl, ⟨.inr ⟨rfl, trivial⟩, trivial⟩⟩⟩⟩⟩⟩
        clear hD
        have hD := hx
        clear hx
        refine ax_Wp.brD hD rfl (fun _ hD => ?_) (fun _ hD => ?_)
        · refine ax_Wp.go (f' := (85, [some (.ref 130), some (.int p0), none, some (.int s5.1), some (.int s7.1), none], [.int (nI 0)])) 1 rfl ?_
          obtain rfl := inj hD
          exact kkv10
        · refine ax_Wp.go (f' := (64, [some (.ref 130), some (.int p0), none, some (.int s5.1), some (.int s7.1), none], [.int s7.1, .ref 130])) 2 rfl ?_
          refine bnd hD (fun x11 hx hD => ?_)
          refine ax_Wp.callE (f' := (67, [some (.ref 130), some (.int p0), none, some (.int s5.1), some (.int s7.1), none], [])) rfl rfl (w_156 (d := d + 0) hx) rfl ?_
          refine ax_Wp.brD hD rfl (fun _ hD => ?_) (fun _ hD => ?_)
          · refine ax_Wp.go (f' := (85, [some (.ref 130), some (.int p0), none, some (.int s5.1), some (.int s7.1), none], [.int (nI 1)])) 2 rfl ?_
            obtain rfl := inj hD
            exact kkv10
          · refine ax_Wp.go (f' := (73, [some (.ref 130), some (.int p0), none, some (.int s5.1), some (.int s7.1), none], [.int (nI 1), .int p0, .ref 130])) 3 rfl ?_
            refine bnd hD (fun x12 hx hD => ?_)
            refine ax_Wp.callE (f' := (76, [some (.ref 130), some (.int p0), none, some (.int s5.1), some (.int s7.1), none], [])) rfl rfl (w_150 (d := d + 0) hx) rfl ?_
            refine ax_Wp.go (f' := (77, [some (.ref 130), some (.int p0), none, some (.int s5.1), some (.int s7.1), none], [.int (nI 1), .int x12])) 1 rfl ?_
            refine ax_Wp.brD hD rfl (fun _ hD => ?_) (fun _ hD => ?_)
            · refine ax_Wp.go (f' := (85, [some (.ref 130), some (.int p0), none, some (.int s5.1), some (.int s7.1), none], [.int (nI 0)])) 1 rfl ?_
              obtain rfl := inj hD
              exact kkv10
            · refine ax_Wp.go (f' := (85, [some (.ref 130), some (.int p0), none, some (.int s5.1), some (.int s7.1), none], [.int (nI 1)])) 2 rfl ?_
              obtain rfl := inj hD
              exact kkv10
  clear hD
  refine ax_Wp.lpD (fun (s1 : Int32 × dM) => ((2, [some (.ref 130), some (.int p0), some (.int p1), some (.int s1.1), none, none], []), stt s1.2)) ?_ hx
  clear hx
  intro s1 v hD ks1
  refine ax_Wp.go (f' := (5, [some (.ref 130), some (.int p0), some (.int p1), some (.int s1.1), none, none], [.int (nI 10), .int s1.1])) 2 rfl ?_
  refine ax_Wp.brD hD rfl (fun _ hD => ?_) (fun _ hD => ?_)
  · obtain rfl := inj hD
    obtain rfl := ks1.o
    exact ax_Wp.dead kkv2 ⟨.inl rfl, ⟨.inl rfl, ⟨.inr ⟨rfl, trivial⟩, ⟨.inr ⟨rfl, trivial⟩, ⟨.inl rfl, ⟨.inl rfl, trivial⟩⟩⟩⟩⟩⟩
  · refine ax_Wp.go (f' := (15, [some (.ref 130), some (.int p0), some (.int p1), some (.int s1.1), none, none], [.int p1, .int s1.1, .int s1.1, .ref 137])) 5 rfl ?_
    refine bnd hD (fun v3 hx hD => ?_)
    refine ax_Wp.jn (F := (23, [some (.ref 130), some (.int p0), some (.int p1), some (.int s1.1), none, none], [.int v3, .int s1.1, .ref 137])) (hh := stt s1.2) ?_ (fun kkv3 => ?_)
    · refine ax_Wp.wrI hD rfl rfl (fun _ => rfl) (fun m4 hD => ?_)
      refine ax_Wp.go (f' := (2, [some (.ref 130), some (.int p0), some (.int p1), some (.int (s1.1 + (nI 1))), none, none], [])) 2 rfl ?_
      obtain rfl := inj hD
      exact ks1.i
    clear hD
    have hD := hx
    clear hx
    refine ax_Wp.brD hD rfl (fun _ hD => ?_) (fun _ hD => ?_)
    · refine ax_Wp.go (f' := (23, [some (.ref 130), some (.int p0), some (.int p1), some (.int s1.1), none, none], [.int (nI 0), .int s1.1, .ref 137])) 2 rfl ?_
      obtain rfl := inj hD
      exact kkv3
    · refine ax_Wp.go (f' := (23, [some (.ref 130), some (.int p0), some (.int p1), some (.int s1.1), none, none], [.int (-1), .int s1.1, .ref 137])) 1 rfl ?_
      obtain rfl := inj hD
      exact kkv3
def D228 (m : dM) (p0 : Int32) : Option (Int32 × dM) := (D150 m p0 (nI 0)).bind fun (x1 : Int32) => (D227 m p0 x1).bind fun (r2 : dM) => Option.bind (lp (β := Int32) 3000 (fun (s3 : Int32 × Int32) => if (nI 10) ≤ s3.2 then some (.inr s3.1) else (gI r2 137 10 s3.2).bind fun (x5 : Int32) => Option.bind ((if x5 = (-1) then some (nI 0) else some ((nI 1) <<< (s3.2 &&& nI 31))) : Option (Int32)) fun (v6 : Int32) => some (.inl (s3.1 ||| v6, s3.2 + (nI 1)))) (nI 0, nI 0)) fun (v4 : Int32) => some (v4, r2)
set_option maxRecDepth 20000 in
theorem w_228 {X : Nat × (Nat → Int32)} {d : Nat} {m : dM} {p0 : Int32} {r : Int32 × dM} (hD : D228 m p0 = some r) : ax_Ev X (d + 3) 228 [.ref 130, .int p0] (stt m) (.inl (some (.int r.1))) (stt r.2) := by
  unfold D228 at hD
  show ax_Wp X (d + 2 + 1) 228 (0, [some (.ref 130), some (.int p0), none, none], []) (stt m) _
  refine ax_Wp.go (f' := (5, [some (.ref 130), some (.int p0), none, none], [.int (nI 0), .int p0, .ref 130, .int p0, .ref 130])) 5 rfl ?_
  refine bnd hD (fun x1 hx hD => ?_)
  refine ax_Wp.callE (f' := (8, [some (.ref 130), some (.int p0), none, none], [.int p0, .ref 130])) rfl rfl (w_150 (d := d + 1) hx) rfl ?_
  refine bnd hD (fun r2 hx hD => ?_)
  refine ax_Wp.callE (f' := (11, [some (.ref 130), some (.int p0), none, none], [])) rfl rfl (w_227 (d := d + 0) hx) rfl ?_
  refine ax_Wp.go (f' := (15, [some (.ref 130), some (.int p0), some (.int (nI 0)), some (.int (nI 0))], [])) 4 rfl ?_
  refine bnd hD (fun v4 hx hD => ?_)
  refine ax_Wp.jn (F := (47, [some (.ref 130), none, some (.int v4), none], [])) (hh := stt r2) ?_ (fun kkv4 => ?_)
  · refine ax_Wp.go (f' := (48, [some (.ref 130), none, some (.int v4), none], [.int v4])) 1 rfl ?_
    obtain rfl := inj hD
    exact ax_Wp.ret rfl ⟨rfl, rfl⟩
  clear hD
  refine ax_Wp.dead (L := [some (.ref 130), none, some (.int (nI 0)), some (.int (nI 0))]) ?_ ⟨.inl rfl, ⟨.inr ⟨rfl, trivial⟩, ⟨.inl rfl, ⟨.inl rfl, trivial⟩⟩⟩⟩
  refine ax_Wp.lpD (fun (s3 : Int32 × Int32) => ((15, [some (.ref 130), none, some (.int s3.1), some (.int s3.2)], []), stt r2)) ?_ hx
  clear hx
  intro s3 v hD ks3
  refine ax_Wp.go (f' := (18, [some (.ref 130), none, some (.int s3.1), some (.int s3.2)], [.int (nI 10), .int s3.2])) 2 rfl ?_
  refine ax_Wp.brD hD rfl (fun _ hD => ?_) (fun _ hD => ?_)
  · obtain rfl := inj hD
    obtain rfl := ks3.o
    exact ax_Wp.dead kkv4 ⟨.inl rfl, ⟨.inl rfl, ⟨.inl rfl, ⟨.inr ⟨rfl, trivial⟩, trivial⟩⟩⟩⟩
  · refine ax_Wp.go (f' := (27, [some (.ref 130), none, some (.int s3.1), some (.int s3.2)], [.int s3.2, .ref 137, .int s3.1])) 4 rfl ?_
    refine ax_Wp.rdI hD rfl rfl rfl (fun x5 hD => ?_)
    refine ax_Wp.go (f' := (29, [some (.ref 130), none, some (.int s3.1), some (.int s3.2)], [.int (-1), .int x5, .int s3.1])) 1 rfl ?_
    refine bnd hD (fun v6 hx hD => ?_)
    refine ax_Wp.jn (F := (39, [some (.ref 130), none, none, some (.int s3.2)], [.int v6, .int s3.1])) (hh := stt r2) ?_ (fun kkv6 => ?_)
    · refine ax_Wp.go (f' := (15, [some (.ref 130), none, some (.int (s3.1 ||| v6)), some (.int (s3.2 + (nI 1)))], [])) 4 rfl ?_
      obtain rfl := inj hD
      exact ks3.i
    clear hD
    have hD := hx
    clear hx
    refine ax_Wp.brD hD rfl (fun _ hD => ?_) (fun _ hD => ?_)
    · refine ax_Wp.go (f' := (39, [some (.ref 130), none, some (.int s3.1), some (.int s3.2)], [.int (nI 0), .int s3.1])) 2 rfl ?_
      obtain rfl := inj hD
      exact ax_Wp.dead kkv6 ⟨.inl rfl, ⟨.inl rfl, ⟨.inr ⟨rfl, trivial⟩, ⟨.inl rfl, trivial⟩⟩⟩⟩
    · refine ax_Wp.go (f' := (39, [some (.ref 130), none, some (.int s3.1), some (.int s3.2)], [.int ((nI 1) <<< (s3.2 &&& nI 31)), .int s3.1])) 3 rfl ?_
      obtain rfl := inj hD
      exact ax_Wp.dead kkv6 ⟨.inl rfl, ⟨.inl rfl, ⟨.inr ⟨rfl, trivial⟩, ⟨.inl rfl, trivial⟩⟩⟩⟩
def D229 (m : dM) (p0 : Int32) : Option (Int32 × dM) := (fI m 130 7 (nI 0)).bind fun (m1 : dM) => (D146 p0).bind fun (x2 : Int32) => Option.bind ((if x2 = (nI 0) then (D143 m1 (nI 1)).bind fun (r4 : Int32 × dM) => some (r4.1, r4.2) else (D228 m1 p0).bind fun (r5 : Int32 × dM) => some (r5.1, r5.2)) : Option (Int32 × dM)) fun (v3 : Int32 × dM) => some (v3.1, v3.2)
set_option maxRecDepth 20000 in
theorem w_229 {X : Nat × (Nat → Int32)} {d : Nat} {m : dM} {p0 : Int32} {r : Int32 × dM} (hD : D229 m p0 = some r) : ax_Ev X (d + 4) 229 [.ref 130, .int p0] (stt m) (.inl (some (.int r.1))) (stt r.2) := by
  unfold D229 at hD
  show ax_Wp X (d + 3 + 1) 229 (0, [some (.ref 130), some (.int p0)], []) (stt m) _
  refine ax_Wp.go (f' := (2, [some (.ref 130), some (.int p0)], [.int (nI 0), .ref 130])) 2 rfl ?_
  refine ax_Wp.ptI hD rfl rfl rfl (fun m1 hD => ?_)
  refine ax_Wp.go (f' := (6, [some (.ref 130), some (.int p0)], [.int p0])) 1 rfl ?_
  refine bnd hD (fun x2 hx hD => ?_)
  refine ax_Wp.callE (f' := (9, [some (.ref 130), some (.int p0)], [])) rfl rfl (w_146 (d := d + 1) hx) rfl ?_
  refine bnd hD (fun v3 hx hD => ?_)
  refine ax_Wp.jn (F := (25, [some (.ref 130), none], [.int v3.1])) (hh := stt v3.2) ?_ (fun kkv3 => ?_)
  · obtain rfl := inj hD
    exact ax_Wp.ret rfl ⟨rfl, rfl⟩
  clear hD
  have hD := hx
  clear hx
  refine ax_Wp.brD hD rfl (fun _ hD => ?_) (fun _ hD => ?_)
  · refine ax_Wp.go (f' := (22, [some (.ref 130), some (.int p0)], [.int (nI 1), .ref 130])) 2 rfl ?_
    refine bnd hD (fun r4 hx hD => ?_)
    refine ax_Wp.callE (f' := (25, [some (.ref 130), some (.int p0)], [])) rfl rfl (w_143 (d := d + 2) hx) rfl ?_
    obtain rfl := inj hD
    exact ax_Wp.dead kkv3 ⟨.inl rfl, ⟨.inr ⟨rfl, trivial⟩, trivial⟩⟩
  · refine ax_Wp.go (f' := (14, [some (.ref 130), some (.int p0)], [.int p0, .ref 130])) 2 rfl ?_
    refine bnd hD (fun r5 hx hD => ?_)
    refine ax_Wp.callE (f' := (17, [some (.ref 130), some (.int p0)], [])) rfl rfl (w_228 (d := d + 0) hx) rfl ?_
    refine ax_Wp.go (f' := (25, [some (.ref 130), some (.int p0)], [.int r5.1])) 1 rfl ?_
    obtain rfl := inj hD
    exact ax_Wp.dead kkv3 ⟨.inl rfl, ⟨.inr ⟨rfl, trivial⟩, trivial⟩⟩
def D230 (m : dM) (p0 : Int32) : Option (Int32 × dM) := (fI m 130 7 (nI 0)).bind fun (m1 : dM) => (D146 p0).bind fun (x2 : Int32) => Option.bind ((if x2 = (nI 0) then (D143 m1 (nI 1)).bind fun (r4 : Int32 × dM) => some (r4.1, r4.2) else (D228 m1 p0).bind fun (r5 : Int32 × dM) => some (r5.1, r5.2)) : Option (Int32 × dM)) fun (v3 : Int32 × dM) => some (v3.1, v3.2)
set_option maxRecDepth 20000 in
theorem w_230 {X : Nat × (Nat → Int32)} {d : Nat} {m : dM} {p0 : Int32} {r : Int32 × dM} (hD : D230 m p0 = some r) : ax_Ev X (d + 4) 230 [.ref 130, .int p0] (stt m) (.inl (some (.int r.1))) (stt r.2) := by
  unfold D230 at hD
  show ax_Wp X (d + 3 + 1) 230 (0, [some (.ref 130), some (.int p0)], []) (stt m) _
  refine ax_Wp.go (f' := (2, [some (.ref 130), some (.int p0)], [.int (nI 0), .ref 130])) 2 rfl ?_
  refine ax_Wp.ptI hD rfl rfl rfl (fun m1 hD => ?_)
  refine ax_Wp.go (f' := (6, [some (.ref 130), some (.int p0)], [.int p0])) 1 rfl ?_
  refine bnd hD (fun x2 hx hD => ?_)
  refine ax_Wp.callE (f' := (9, [some (.ref 130), some (.int p0)], [])) rfl rfl (w_146 (d := d + 1) hx) rfl ?_
  refine bnd hD (fun v3 hx hD => ?_)
  refine ax_Wp.jn (F := (25, [some (.ref 130), none], [.int v3.1])) (hh := stt v3.2) ?_ (fun kkv3 => ?_)
  · obtain rfl := inj hD
    exact ax_Wp.ret rfl ⟨rfl, rfl⟩
  clear hD
  have hD := hx
  clear hx
  refine ax_Wp.brD hD rfl (fun _ hD => ?_) (fun _ hD => ?_)
  · refine ax_Wp.go (f' := (22, [some (.ref 130), some (.int p0)], [.int (nI 1), .ref 130])) 2 rfl ?_
    refine bnd hD (fun r4 hx hD => ?_)
    refine ax_Wp.callE (f' := (25, [some (.ref 130), some (.int p0)], [])) rfl rfl (w_143 (d := d + 2) hx) rfl ?_
    obtain rfl := inj hD
    exact ax_Wp.dead kkv3 ⟨.inl rfl, ⟨.inr ⟨rfl, trivial⟩, trivial⟩⟩
  · refine ax_Wp.go (f' := (14, [some (.ref 130), some (.int p0)], [.int p0, .ref 130])) 2 rfl ?_
    refine bnd hD (fun r5 hx hD => ?_)
    refine ax_Wp.callE (f' := (17, [some (.ref 130), some (.int p0)], [])) rfl rfl (w_228 (d := d + 0) hx) rfl ?_
    refine ax_Wp.go (f' := (25, [some (.ref 130), some (.int p0)], [.int r5.1])) 1 rfl ?_
    obtain rfl := inj hD
    exact ax_Wp.dead kkv3 ⟨.inl rfl, ⟨.inr ⟨rfl, trivial⟩, trivial⟩⟩
def D231 (m : dM) (p0 : Int32) (p1 : Int32) (p2 : Int32) : Option (Int32 × dM) := (D227 m p0 p1).bind fun (r1 : dM) => (gI r1 137 10 p2).bind fun (x2 : Int32) => some (x2, r1)
set_option maxRecDepth 20000 in
theorem w_231 {X : Nat × (Nat → Int32)} {d : Nat} {m : dM} {p0 : Int32} {p1 : Int32} {p2 : Int32} {r : Int32 × dM} (hD : D231 m p0 p1 p2 = some r) : ax_Ev X (d + 3) 231 [.ref 130, .int p0, .int p1, .int p2] (stt m) (.inl (some (.int r.1))) (stt r.2) := by
  unfold D231 at hD
  show ax_Wp X (d + 2 + 1) 231 (0, [some (.ref 130), some (.int p0), some (.int p1), some (.int p2)], []) (stt m) _
  refine ax_Wp.go (f' := (3, [some (.ref 130), some (.int p0), some (.int p1), some (.int p2)], [.int p1, .int p0, .ref 130])) 3 rfl ?_
  refine bnd hD (fun r1 hx hD => ?_)
  refine ax_Wp.callE (f' := (6, [some (.ref 130), some (.int p0), some (.int p1), some (.int p2)], [])) rfl rfl (w_227 (d := d + 0) hx) rfl ?_
  refine ax_Wp.go (f' := (11, [some (.ref 130), some (.int p0), some (.int p1), some (.int p2)], [.int p2, .ref 137])) 3 rfl ?_
  refine ax_Wp.rdI hD rfl rfl rfl (fun x2 hD => ?_)
  obtain rfl := inj hD
  exact ax_Wp.ret rfl ⟨rfl, rfl⟩
def D232 (m : dM) (p0 : Int32) (p1 : Int32) : Option (Int32 × dM) := (fI m 130 7 (nI 0)).bind fun (m1 : dM) => (D146 p0).bind fun (x2 : Int32) => Option.bind ((if x2 = (nI 0) then (D143 m1 (nI 1)).bind fun (r4 : Int32 × dM) => some (r4.1, r4.2) else (D145 p1).bind fun (x5 : Int32) => if x5 = (nI 0) then (D143 m1 (nI 1)).bind fun (r6 : Int32 × dM) => some (r6.1, r6.2) else (D150 m1 p0 (nI 0)).bind fun (x7 : Int32) => (D231 m1 p0 x7 p1).bind fun (r8 : Int32 × dM) => some (r8.1, r8.2)) : Option (Int32 × dM)) fun (v3 : Int32 × dM) => some (v3.1, v3.2)
set_option maxRecDepth 20000 in
theorem w_232 {X : Nat × (Nat → Int32)} {d : Nat} {m : dM} {p0 : Int32} {p1 : Int32} {r : Int32 × dM} (hD : D232 m p0 p1 = some r) : ax_Ev X (d + 4) 232 [.ref 130, .int p0, .int p1] (stt m) (.inl (some (.int r.1))) (stt r.2) := by
  unfold D232 at hD
  show ax_Wp X (d + 3 + 1) 232 (0, [some (.ref 130), some (.int p0), some (.int p1)], []) (stt m) _
  refine ax_Wp.go (f' := (2, [some (.ref 130), some (.int p0), some (.int p1)], [.int (nI 0), .ref 130])) 2 rfl ?_
  refine ax_Wp.ptI hD rfl rfl rfl (fun m1 hD => ?_)
  refine ax_Wp.go (f' := (6, [some (.ref 130), some (.int p0), some (.int p1)], [.int p0])) 1 rfl ?_
  refine bnd hD (fun x2 hx hD => ?_)
  refine ax_Wp.callE (f' := (9, [some (.ref 130), some (.int p0), some (.int p1)], [])) rfl rfl (w_146 (d := d + 1) hx) rfl ?_
  refine bnd hD (fun v3 hx hD => ?_)
  refine ax_Wp.jn (F := (39, [some (.ref 130), none, none], [.int v3.1])) (hh := stt v3.2) ?_ (fun kkv3 => ?_)
  · obtain rfl := inj hD
    exact ax_Wp.ret rfl ⟨rfl, rfl⟩
  clear hD
  have hD := hx
  clear hx
  refine ax_Wp.brD hD rfl (fun _ hD => ?_) (fun _ hD => ?_)
  · refine ax_Wp.go (f' := (36, [some (.ref 130), some (.int p0), some (.int p1)], [.int (nI 1), .ref 130])) 2 rfl ?_
    refine bnd hD (fun r4 hx hD => ?_)
    refine ax_Wp.callE (f' := (39, [some (.ref 130), some (.int p0), some (.int p1)], [])) rfl rfl (w_143 (d := d + 2) hx) rfl ?_
    obtain rfl := inj hD
    exact ax_Wp.dead kkv3 ⟨.inl rfl, ⟨.inr ⟨rfl, trivial⟩, ⟨.inr ⟨rfl, trivial⟩, trivial⟩⟩⟩
  · refine ax_Wp.go (f' := (13, [some (.ref 130), some (.int p0), some (.int p1)], [.int p1])) 1 rfl ?_
    refine bnd hD (fun x5 hx hD => ?_)
    refine ax_Wp.callE (f' := (16, [some (.ref 130), some (.int p0), some (.int p1)], [])) rfl rfl (w_145 (d := d + 1) hx) rfl ?_
    refine ax_Wp.brD hD rfl (fun _ hD => ?_) (fun _ hD => ?_)
    · refine ax_Wp.go (f' := (36, [some (.ref 130), some (.int p0), some (.int p1)], [.int (nI 1), .ref 130])) 2 rfl ?_
      refine bnd hD (fun r6 hx hD => ?_)
      refine ax_Wp.callE (f' := (39, [some (.ref 130), some (.int p0), some (.int p1)], [])) rfl rfl (w_143 (d := d + 2) hx) rfl ?_
      obtain rfl := inj hD
      exact ax_Wp.dead kkv3 ⟨.inl rfl, ⟨.inr ⟨rfl, trivial⟩, ⟨.inr ⟨rfl, trivial⟩, trivial⟩⟩⟩
    · refine ax_Wp.go (f' := (24, [some (.ref 130), some (.int p0), some (.int p1)], [.int (nI 0), .int p0, .ref 130, .int p0, .ref 130])) 5 rfl ?_
      refine bnd hD (fun x7 hx hD => ?_)
      refine ax_Wp.callE (f' := (27, [some (.ref 130), some (.int p0), some (.int p1)], [.int p0, .ref 130])) rfl rfl (w_150 (d := d + 2) hx) rfl ?_
      refine ax_Wp.go (f' := (28, [some (.ref 130), some (.int p0), some (.int p1)], [.int p1, .int x7, .int p0, .ref 130])) 1 rfl ?_
      refine bnd hD (fun r8 hx hD => ?_)
      refine ax_Wp.callE (f' := (31, [some (.ref 130), some (.int p0), some (.int p1)], [])) rfl rfl (w_231 (d := d + 0) hx) rfl ?_
      refine ax_Wp.go (f' := (39, [some (.ref 130), some (.int p0), some (.int p1)], [.int r8.1])) 1 rfl ?_
      obtain rfl := inj hD
      exact ax_Wp.dead kkv3 ⟨.inl rfl, ⟨.inr ⟨rfl, trivial⟩, ⟨.inr ⟨rfl, trivial⟩, trivial⟩⟩⟩
