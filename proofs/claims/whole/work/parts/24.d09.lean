/-! WHAT METHODS DO, printed of their bytecode: 9 -/
def D142 (m : dM) : Option (Int32) := some (rI m 130 7)
set_option maxRecDepth 20000 in
theorem w_142 {X : Nat × (Nat → Int32)} {d : Nat} {m : dM} {r : Int32} (hD : D142 m = some r) : ax_Ev X (d + 1) 142 [.ref 130] (stt m) (.inl (some (.int r))) (stt m) := by
  unfold D142 at hD
  show ax_Wp X (d + 0 + 1) 142 (0, [some (.ref 130)], []) (stt m) _
  refine ax_Wp.go (f' := (4, [some (.ref 130)], [.int (rI m 130 7)])) 2 rfl ?_
  obtain rfl := inj hD
  exact ax_Wp.ret rfl ⟨rfl, rfl⟩
def D147 (m : dM) (p0 : Int32) : Option (Int32) := (D144 p0 (nI 0) ((rI m 131 0) - (nI 1))).bind fun (x1 : Int32) => (gB x1).bind fun (b2 : Int32) => some b2
set_option maxRecDepth 20000 in
theorem w_147 {X : Nat × (Nat → Int32)} {d : Nat} {m : dM} {p0 : Int32} {r : Int32} (hD : D147 m p0 = some r) : ax_Ev X (d + 2) 147 [.ref 130, .int p0] (stt m) (.inl (some (.int r))) (stt m) := by
  unfold D147 at hD
  show ax_Wp X (d + 1 + 1) 147 (0, [some (.ref 130), some (.int p0)], []) (stt m) _
  refine ax_Wp.go (f' := (10, [some (.ref 130), some (.int p0)], [.int ((rI m 131 0) - (nI 1)), .int (nI 0), .int p0])) 8 rfl ?_
  refine bnd hD (fun x1 hx hD => ?_)
  refine ax_Wp.callE (f' := (13, [some (.ref 130), some (.int p0)], [])) rfl rfl (w_144 (d := d + 0) hx) rfl ?_
  refine ax_Wp.retB hD rfl (fun b2 hD => ?_)
  obtain rfl := inj hD
  exact ⟨rfl, rfl⟩
def D157 (m : dM) (p0 : Int32) : Option (Int32) := (gI m 131 299 (((nI 1) + ((nI 4) * p0)) + (nI 3))).bind fun (x1 : Int32) => Option.bind ((if x1 = (nI 1) then some (nI 1) else some (nI 0)) : Option (Int32)) fun (v2 : Int32) => (gB v2).bind fun (b3 : Int32) => some b3
set_option maxRecDepth 20000 in
theorem w_157 {X : Nat × (Nat → Int32)} {d : Nat} {m : dM} {p0 : Int32} {r : Int32} (hD : D157 m p0 = some r) : ax_Ev X (d + 1) 157 [.ref 130, .int p0] (stt m) (.inl (some (.int r))) (stt m) := by
  unfold D157 at hD
  show ax_Wp X (d + 0 + 1) 157 (0, [some (.ref 130), some (.int p0)], []) (stt m) _
  refine ax_Wp.go (f' := (11, [some (.ref 130), some (.int p0)], [.int (((nI 1) + ((nI 4) * p0)) + (nI 3)), .ref 131])) 9 rfl ?_
  refine ax_Wp.rdI hD rfl rfl rfl (fun x1 hD => ?_)
  refine ax_Wp.go (f' := (13, [some (.ref 130), some (.int p0)], [.int (nI 1), .int x1])) 1 rfl ?_
  refine bnd hD (fun v2 hx hD => ?_)
  refine ax_Wp.jn (F := (21, [some (.ref 130), none], [.int v2])) (hh := stt m) ?_ (fun kkv2 => ?_)
  · refine ax_Wp.retB hD rfl (fun b3 hD => ?_)
    obtain rfl := inj hD
    exact ⟨rfl, rfl⟩
  clear hD
  have hD := hx
  clear hx
  refine ax_Wp.brD hD rfl (fun _ hD => ?_) (fun _ hD => ?_)
  · refine ax_Wp.go (f' := (21, [some (.ref 130), some (.int p0)], [.int (nI 1)])) 2 rfl ?_
    obtain rfl := inj hD
    exact ax_Wp.dead kkv2 ⟨.inl rfl, ⟨.inr ⟨rfl, trivial⟩, trivial⟩⟩
  · refine ax_Wp.go (f' := (21, [some (.ref 130), some (.int p0)], [.int (nI 0)])) 1 rfl ?_
    obtain rfl := inj hD
    exact ax_Wp.dead kkv2 ⟨.inl rfl, ⟨.inr ⟨rfl, trivial⟩, trivial⟩⟩
def D150 (m : dM) (p0 : Int32) (p1 : Int32) : Option (Int32) := (gI m 131 299 (((nI 97) + ((nI 5) * p0)) + p1)).bind fun (x1 : Int32) => some x1
set_option maxRecDepth 20000 in
theorem w_150 {X : Nat × (Nat → Int32)} {d : Nat} {m : dM} {p0 : Int32} {p1 : Int32} {r : Int32} (hD : D150 m p0 p1 = some r) : ax_Ev X (d + 1) 150 [.ref 130, .int p0, .int p1] (stt m) (.inl (some (.int r))) (stt m) := by
  unfold D150 at hD
  show ax_Wp X (d + 0 + 1) 150 (0, [some (.ref 130), some (.int p0), some (.int p1)], []) (stt m) _
  refine ax_Wp.go (f' := (12, [some (.ref 130), some (.int p0), some (.int p1)], [.int (((nI 97) + ((nI 5) * p0)) + p1), .ref 131])) 9 rfl ?_
  refine ax_Wp.rdI hD rfl rfl rfl (fun x1 hD => ?_)
  obtain rfl := inj hD
  exact ax_Wp.ret rfl ⟨rfl, rfl⟩
def D151 (m : dM) (p0 : Int32) (p1 : Int32) (p2 : Int32) : Option (dM) := (sI m 131 299 (((nI 97) + ((nI 5) * p0)) + p1) p2).bind fun (m1 : dM) => some m1
set_option maxRecDepth 20000 in
theorem w_151 {X : Nat × (Nat → Int32)} {d : Nat} {m : dM} {p0 : Int32} {p1 : Int32} {p2 : Int32} {r : dM} (hD : D151 m p0 p1 p2 = some r) : ax_Ev X (d + 1) 151 [.ref 130, .int p0, .int p1, .int p2] (stt m) (.inl none) (stt r) := by
  unfold D151 at hD
  show ax_Wp X (d + 0 + 1) 151 (0, [some (.ref 130), some (.int p0), some (.int p1), some (.int p2)], []) (stt m) _
  refine ax_Wp.go (f' := (13, [some (.ref 130), some (.int p0), some (.int p1), some (.int p2)], [.int p2, .int (((nI 97) + ((nI 5) * p0)) + p1), .ref 131])) 10 rfl ?_
  refine ax_Wp.wrI hD rfl rfl (fun _ => rfl) (fun m1 hD => ?_)
  obtain rfl := inj hD
  exact ax_Wp.ret rfl ⟨rfl, rfl⟩
def D177 (m : dM) (p0 : Int32) : Option (Int32 × dM) := (D157 m p0).bind fun (x1 : Int32) => Option.bind ((if x1 = (nI 0) then some (nI 1) else some (nI 0)) : Option (Int32)) fun (v2 : Int32) => (sI m 131 299 (((nI 1) + ((nI 4) * p0)) + (nI 3)) v2).bind fun (m3 : dM) => Option.bind (lp (β := dM) 3000 (fun (s4 : Int32 × dM) => if (nI 4) ≤ s4.1 then some (.inr s4.2) else (D150 s4.2 s4.1 (nI 2)).bind fun (x6 : Int32) => Option.bind ((if x6 = p0 then (D157 s4.2 p0).bind fun (x8 : Int32) => if x8 = (nI 0) then some (-1) else (D150 s4.2 s4.1 (nI 2)).bind fun (x9 : Int32) => some x9 else (D150 s4.2 s4.1 (nI 2)).bind fun (x10 : Int32) => some x10) : Option (Int32)) fun (v7 : Int32) => (D151 s4.2 s4.1 (nI 2) v7).bind fun (r11 : dM) => some (.inl (s4.1 + (nI 1), r11))) (nI 0, m3)) fun (v5 : dM) => (D157 v5 p0).bind fun (x12 : Int32) => (gB x12).bind fun (b13 : Int32) => some (b13, v5)
set_option maxRecDepth 20000 in
theorem w_177 {X : Nat × (Nat → Int32)} {d : Nat} {m : dM} {p0 : Int32} {r : Int32 × dM} (hD : D177 m p0 = some r) : ax_Ev X (d + 2) 177 [.ref 130, .int p0] (stt m) (.inl (some (.int r.1))) (stt r.2) := by
  unfold D177 at hD
  show ax_Wp X (d + 1 + 1) 177 (0, [some (.ref 130), some (.int p0), none], []) (stt m) _
  refine ax_Wp.go (f' := (13, [some (.ref 130), some (.int p0), none], [.int p0, .ref 130, .int (((nI 1) + ((nI 4) * p0)) + (nI 3)), .ref 131])) 11 rfl ?_
  refine bnd hD (fun x1 hx hD => ?_)
  refine ax_Wp.callE (f' := (16, [some (.ref 130), some (.int p0), none], [.int (((nI 1) + ((nI 4) * p0)) + (nI 3)), .ref 131])) rfl rfl (w_157 (d := d + 0) hx) rfl ?_
  refine bnd hD (fun v2 hx hD => ?_)
  refine ax_Wp.jn (F := (24, [some (.ref 130), some (.int p0), none], [.int v2, .int (((nI 1) + ((nI 4) * p0)) + (nI 3)), .ref 131])) (hh := stt m) ?_ (fun kkv2 => ?_)
  · refine ax_Wp.wrI hD rfl rfl (fun _ => rfl) (fun m3 hD => ?_)
    refine ax_Wp.go (f' := (27, [some (.ref 130), some (.int p0), some (.int (nI 0))], [])) 2 rfl ?_
    refine bnd hD (fun v5 hx hD => ?_)
    refine ax_Wp.jn (F := (72, [some (.ref 130), some (.int p0), none], [])) (hh := stt v5) ?_ (fun kkv5 => ?_)
    · refine ax_Wp.go (f' := (74, [some (.ref 130), some (.int p0), none], [.int p0, .ref 130])) 2 rfl ?_
      refine bnd hD (fun x12 hx hD => ?_)
      refine ax_Wp.callE (f' := (77, [some (.ref 130), some (.int p0), none], [])) rfl rfl (w_157 (d := d + 0) hx) rfl ?_
      refine ax_Wp.retB hD rfl (fun b13 hD => ?_)
      obtain rfl := inj hD
      exact ⟨rfl, rfl⟩
    clear hD
    refine ax_Wp.lpD (fun (s4 : Int32 × dM) => ((27, [some (.ref 130), some (.int p0), some (.int s4.1)], []), stt s4.2)) ?_ hx
    clear hx
    intro s4 v hD ks4
    refine ax_Wp.go (f' := (29, [some (.ref 130), some (.int p0), some (.int s4.1)], [.int (nI 4), .int s4.1])) 2 rfl ?_
    refine ax_Wp.brD hD rfl (fun _ hD => ?_) (fun _ hD => ?_)
    · obtain rfl := inj hD
      obtain rfl := ks4.o
      exact ax_Wp.dead kkv5 ⟨.inl rfl, ⟨.inl rfl, ⟨.inr ⟨rfl, trivial⟩, trivial⟩⟩⟩
    · refine ax_Wp.go (f' := (38, [some (.ref 130), some (.int p0), some (.int s4.1)], [.int (nI 2), .int s4.1, .ref 130, .int (nI 2), .int s4.1, .ref 130])) 6 rfl ?_
      refine bnd hD (fun x6 hx hD => ?_)
      refine ax_Wp.callE (f' := (41, [some (.ref 130), some (.int p0), some (.int s4.1)], [.int (nI 2), .int s4.1, .ref 130])) rfl rfl (w_150 (d := d + 0) hx) rfl ?_
      refine ax_Wp.go (f' := (42, [some (.ref 130), some (.int p0), some (.int s4.1)], [.int p0, .int x6, .int (nI 2), .int s4.1, .ref 130])) 1 rfl ?_
      refine bnd hD (fun v7 hx hD => ?_)
      refine ax_Wp.jn (F := (63, [some (.ref 130), some (.int p0), some (.int s4.1)], [.int v7, .int (nI 2), .int s4.1, .ref 130])) (hh := stt s4.2) ?_ (fun kkv7 => ?_)
      · refine bnd hD (fun r11 hx hD => ?_)
        refine ax_Wp.callE (f' := (66, [some (.ref 130), some (.int p0), some (.int s4.1)], [])) rfl rfl (w_151 (d := d + 0) hx) rfl ?_
        refine ax_Wp.go (f' := (27, [some (.ref 130), some (.int p0), some (.int (s4.1 + (nI 1)))], [])) 2 rfl ?_
        obtain rfl := inj hD
        exact ks4.i
      clear hD
      have hD := hx
      clear hx
      refine ax_Wp.brD hD rfl (fun _ hD => ?_) (fun _ hD => ?_)
      · refine ax_Wp.go (f' := (47, [some (.ref 130), some (.int p0), some (.int s4.1)], [.int p0, .ref 130, .int (nI 2), .int s4.1, .ref 130])) 2 rfl ?_
        refine bnd hD (fun x8 hx hD => ?_)
        refine ax_Wp.callE (f' := (50, [some (.ref 130), some (.int p0), some (.int s4.1)], [.int (nI 2), .int s4.1, .ref 130])) rfl rfl (w_157 (d := d + 0) hx) rfl ?_
        refine ax_Wp.brD hD rfl (fun _ hD => ?_) (fun _ hD => ?_)
        · refine ax_Wp.go (f' := (63, [some (.ref 130), some (.int p0), some (.int s4.1)], [.int (-1), .int (nI 2), .int s4.1, .ref 130])) 2 rfl ?_
          obtain rfl := inj hD
          exact kkv7
        · refine ax_Wp.go (f' := (60, [some (.ref 130), some (.int p0), some (.int s4.1)], [.int (nI 2), .int s4.1, .ref 130, .int (nI 2), .int s4.1, .ref 130])) 3 rfl ?_
          refine bnd hD (fun x9 hx hD => ?_)
          refine ax_Wp.callE (f' := (63, [some (.ref 130), some (.int p0), some (.int s4.1)], [.int (nI 2), .int s4.1, .ref 130])) rfl rfl (w_150 (d := d + 0) hx) rfl ?_
          obtain rfl := inj hD
          exact kkv7
      · refine ax_Wp.go (f' := (60, [some (.ref 130), some (.int p0), some (.int s4.1)], [.int (nI 2), .int s4.1, .ref 130, .int (nI 2), .int s4.1, .ref 130])) 3 rfl ?_
        refine bnd hD (fun x10 hx hD => ?_)
        refine ax_Wp.callE (f' := (63, [some (.ref 130), some (.int p0), some (.int s4.1)], [.int (nI 2), .int s4.1, .ref 130])) rfl rfl (w_150 (d := d + 0) hx) rfl ?_
        obtain rfl := inj hD
        exact kkv7
  clear hD
  have hD := hx
  clear hx
  refine ax_Wp.brD hD rfl (fun _ hD => ?_) (fun _ hD => ?_)
  · refine ax_Wp.go (f' := (24, [some (.ref 130), some (.int p0), none], [.int (nI 1), .int (((nI 1) + ((nI 4) * p0)) + (nI 3)), .ref 131])) 1 rfl ?_
    obtain rfl := inj hD
    exact kkv2
  · refine ax_Wp.go (f' := (24, [some (.ref 130), some (.int p0), none], [.int (nI 0), .int (((nI 1) + ((nI 4) * p0)) + (nI 3)), .ref 131])) 2 rfl ?_
    obtain rfl := inj hD
    exact kkv2
def D179 (m : dM) (p0 : Int32) : Option (Int32 × dM) := (D147 m p0).bind fun (x1 : Int32) => Option.bind ((if x1 = (nI 0) then some (nI 1) else some (nI 0)) : Option (Int32)) fun (v2 : Int32) => (fI m 130 7 v2).bind fun (m3 : dM) => if (rI m3 130 7) ≤ (nI 0) then (D149 m3).bind fun (r4 : dM) => (D177 r4 p0).bind fun (r5 : Int32 × dM) => (gB r5.1).bind fun (b6 : Int32) => some (b6, r5.2) else some (nI 0, m3)
set_option maxRecDepth 20000 in
theorem w_179 {X : Nat × (Nat → Int32)} {d : Nat} {m : dM} {p0 : Int32} {r : Int32 × dM} (hD : D179 m p0 = some r) : ax_Ev X (d + 3) 179 [.ref 130, .int p0] (stt m) (.inl (some (.int r.1))) (stt r.2) := by
  unfold D179 at hD
  show ax_Wp X (d + 2 + 1) 179 (0, [some (.ref 130), some (.int p0)], []) (stt m) _
  refine ax_Wp.go (f' := (3, [some (.ref 130), some (.int p0)], [.int p0, .ref 130, .ref 130])) 3 rfl ?_
  refine bnd hD (fun x1 hx hD => ?_)
  refine ax_Wp.callE (f' := (6, [some (.ref 130), some (.int p0)], [.ref 130])) rfl rfl (w_147 (d := d + 0) hx) rfl ?_
  refine bnd hD (fun v2 hx hD => ?_)
  refine ax_Wp.jn (F := (14, [some (.ref 130), some (.int p0)], [.int v2, .ref 130])) (hh := stt m) ?_ (fun kkv2 => ?_)
  · refine ax_Wp.ptI hD rfl rfl rfl (fun m3 hD => ?_)
    refine ax_Wp.go (f' := (21, [some (.ref 130), some (.int p0)], [.int (rI m3 130 7)])) 2 rfl ?_
    refine ax_Wp.brD hD rfl (fun _ hD => ?_) (fun _ hD => ?_)
    · refine ax_Wp.go (f' := (27, [some (.ref 130), some (.int p0)], [.ref 130])) 1 rfl ?_
      refine bnd hD (fun r4 hx hD => ?_)
      refine ax_Wp.callE (f' := (30, [some (.ref 130), some (.int p0)], [])) rfl rfl (w_149 (d := d + 1) hx) rfl ?_
      refine ax_Wp.go (f' := (32, [some (.ref 130), some (.int p0)], [.int p0, .ref 130])) 2 rfl ?_
      refine bnd hD (fun r5 hx hD => ?_)
      refine ax_Wp.callE (f' := (35, [some (.ref 130), some (.int p0)], [])) rfl rfl (w_177 (d := d + 0) hx) rfl ?_
      refine ax_Wp.retB hD rfl (fun b6 hD => ?_)
      obtain rfl := inj hD
      exact ⟨rfl, rfl⟩
    · refine ax_Wp.go (f' := (25, [some (.ref 130), some (.int p0)], [.int (nI 0)])) 1 rfl ?_
      obtain rfl := inj hD
      exact ax_Wp.ret rfl ⟨rfl, rfl⟩
  clear hD
  have hD := hx
  clear hx
  refine ax_Wp.brD hD rfl (fun _ hD => ?_) (fun _ hD => ?_)
  · refine ax_Wp.go (f' := (14, [some (.ref 130), some (.int p0)], [.int (nI 1), .ref 130])) 1 rfl ?_
    obtain rfl := inj hD
    exact kkv2
  · refine ax_Wp.go (f' := (14, [some (.ref 130), some (.int p0)], [.int (nI 0), .ref 130])) 2 rfl ?_
    obtain rfl := inj hD
    exact kkv2
def D146 (p0 : Int32) : Option (Int32) := (D144 p0 (nI 0) (nI 3)).bind fun (x1 : Int32) => (gB x1).bind fun (b2 : Int32) => some b2
set_option maxRecDepth 20000 in
theorem w_146 {X : Nat × (Nat → Int32)} {d : Nat} {m : dM} {p0 : Int32} {r : Int32} (hD : D146 p0 = some r) : ax_Ev X (d + 2) 146 [.int p0] (stt m) (.inl (some (.int r))) (stt m) := by
  unfold D146 at hD
  show ax_Wp X (d + 1 + 1) 146 (0, [some (.int p0)], []) (stt m) _
  refine ax_Wp.go (f' := (3, [some (.int p0)], [.int (nI 3), .int (nI 0), .int p0])) 3 rfl ?_
  refine bnd hD (fun x1 hx hD => ?_)
  refine ax_Wp.callE (f' := (6, [some (.int p0)], [])) rfl rfl (w_144 (d := d + 0) hx) rfl ?_
  refine ax_Wp.retB hD rfl (fun b2 hD => ?_)
  obtain rfl := inj hD
  exact ⟨rfl, rfl⟩
def D152 (m : dM) (p0 : Int32) (p1 : Int32) : Option (Int32) := (gI m 131 299 (((nI 118) + ((nI 6) * p0)) + p1)).bind fun (x1 : Int32) => some x1
set_option maxRecDepth 20000 in
theorem w_152 {X : Nat × (Nat → Int32)} {d : Nat} {m : dM} {p0 : Int32} {p1 : Int32} {r : Int32} (hD : D152 m p0 p1 = some r) : ax_Ev X (d + 1) 152 [.ref 130, .int p0, .int p1] (stt m) (.inl (some (.int r))) (stt m) := by
  unfold D152 at hD
  show ax_Wp X (d + 0 + 1) 152 (0, [some (.ref 130), some (.int p0), some (.int p1)], []) (stt m) _
  refine ax_Wp.go (f' := (13, [some (.ref 130), some (.int p0), some (.int p1)], [.int (((nI 118) + ((nI 6) * p0)) + p1), .ref 131])) 9 rfl ?_
  refine ax_Wp.rdI hD rfl rfl rfl (fun x1 hD => ?_)
  obtain rfl := inj hD
  exact ax_Wp.ret rfl ⟨rfl, rfl⟩
def D161 (m : dM) (p0 : Int32) : Option (Int32) := if p0 < (rI m 131 117) then (D152 m p0 (nI 4)).bind fun (x1 : Int32) => Option.bind ((if x1 = (nI 0) then (D152 m p0 (nI 0)).bind fun (x3 : Int32) => some x3 else (D152 m p0 (nI 4)).bind fun (x4 : Int32) => if x4 = (nI 1) then (D152 m p0 (nI 5)).bind fun (x5 : Int32) => some ((nI 10) + x5) else (D152 m p0 (nI 5)).bind fun (x6 : Int32) => some ((nI 14) + x6)) : Option (Int32)) fun (v2 : Int32) => some v2 else some (nI 0)
set_option maxRecDepth 20000 in
theorem w_161 {X : Nat × (Nat → Int32)} {d : Nat} {m : dM} {p0 : Int32} {r : Int32} (hD : D161 m p0 = some r) : ax_Ev X (d + 2) 161 [.ref 130, .int p0] (stt m) (.inl (some (.int r))) (stt m) := by
  unfold D161 at hD
  show ax_Wp X (d + 1 + 1) 161 (0, [some (.ref 130), some (.int p0)], []) (stt m) _
  refine ax_Wp.go (f' := (8, [some (.ref 130), some (.int p0)], [.int (rI m 131 117), .int p0])) 5 rfl ?_
  refine ax_Wp.brD hD rfl (fun _ hD => ?_) (fun _ hD => ?_)
  · refine ax_Wp.go (f' := (16, [some (.ref 130), some (.int p0)], [.int (nI 4), .int p0, .ref 130])) 3 rfl ?_
    refine bnd hD (fun x1 hx hD => ?_)
    refine ax_Wp.callE (f' := (19, [some (.ref 130), some (.int p0)], [])) rfl rfl (w_152 (d := d + 0) hx) rfl ?_
    refine bnd hD (fun v2 hx hD => ?_)
    refine ax_Wp.jn (F := (62, [some (.ref 130), none], [.int v2])) (hh := stt m) ?_ (fun kkv2 => ?_)
    · obtain rfl := inj hD
      exact ax_Wp.ret rfl ⟨rfl, rfl⟩
    clear hD
    have hD := hx
    clear hx
    refine ax_Wp.brD hD rfl (fun _ hD => ?_) (fun _ hD => ?_)
    · refine ax_Wp.go (f' := (25, [some (.ref 130), some (.int p0)], [.int (nI 0), .int p0, .ref 130])) 3 rfl ?_
      refine bnd hD (fun x3 hx hD => ?_)
      refine ax_Wp.callE (f' := (28, [some (.ref 130), some (.int p0)], [])) rfl rfl (w_152 (d := d + 0) hx) rfl ?_
      refine ax_Wp.go (f' := (62, [some (.ref 130), some (.int p0)], [.int x3])) 1 rfl ?_
      obtain rfl := inj hD
      exact ax_Wp.dead kkv2 ⟨.inl rfl, ⟨.inr ⟨rfl, trivial⟩, trivial⟩⟩
    · refine ax_Wp.go (f' := (34, [some (.ref 130), some (.int p0)], [.int (nI 4), .int p0, .ref 130])) 3 rfl ?_
      refine bnd hD (fun x4 hx hD => ?_)
      refine ax_Wp.callE (f' := (37, [some (.ref 130), some (.int p0)], [])) rfl rfl (w_152 (d := d + 0) hx) rfl ?_
      refine ax_Wp.go (f' := (38, [some (.ref 130), some (.int p0)], [.int (nI 1), .int x4])) 1 rfl ?_
      refine ax_Wp.brD hD rfl (fun _ hD => ?_) (fun _ hD => ?_)
      · refine ax_Wp.go (f' := (46, [some (.ref 130), some (.int p0)], [.int (nI 5), .int p0, .ref 130, .int (nI 10)])) 4 rfl ?_
        refine bnd hD (fun x5 hx hD => ?_)
        refine ax_Wp.callE (f' := (49, [some (.ref 130), some (.int p0)], [.int (nI 10)])) rfl rfl (w_152 (d := d + 0) hx) rfl ?_
        refine ax_Wp.go (f' := (62, [some (.ref 130), some (.int p0)], [.int ((nI 10) + x5)])) 2 rfl ?_
        obtain rfl := inj hD
        exact ax_Wp.dead kkv2 ⟨.inl rfl, ⟨.inr ⟨rfl, trivial⟩, trivial⟩⟩
      · refine ax_Wp.go (f' := (58, [some (.ref 130), some (.int p0)], [.int (nI 5), .int p0, .ref 130, .int (nI 14)])) 4 rfl ?_
        refine bnd hD (fun x6 hx hD => ?_)
        refine ax_Wp.callE (f' := (61, [some (.ref 130), some (.int p0)], [.int (nI 14)])) rfl rfl (w_152 (d := d + 0) hx) rfl ?_
        refine ax_Wp.go (f' := (62, [some (.ref 130), some (.int p0)], [.int ((nI 14) + x6)])) 1 rfl ?_
        obtain rfl := inj hD
        exact ax_Wp.dead kkv2 ⟨.inl rfl, ⟨.inr ⟨rfl, trivial⟩, trivial⟩⟩
  · refine ax_Wp.go (f' := (12, [some (.ref 130), some (.int p0)], [.int (nI 0)])) 1 rfl ?_
    obtain rfl := inj hD
    exact ax_Wp.ret rfl ⟨rfl, rfl⟩
def D162 (m : dM) : Option (Int32) := Option.bind (lp (β := Int32) 3000 (fun (s1 : Int32 × Int32) => if (nI 4) ≤ s1.2 then some (.inr s1.1) else (D150 m s1.2 (nI 0)).bind fun (x3 : Int32) => some (.inl ((s1.1 * (nI 10)) + x3, s1.2 + (nI 1)))) (nI 0, nI 0)) fun (v2 : Int32) => Option.bind (lp (β := Int32) 3000 (fun (s4 : Int32 × Int32) => if (nI 4) ≤ s4.2 then some (.inr s4.1) else (D161 m s4.2).bind fun (x6 : Int32) => some (.inl ((s4.1 * (nI 18)) + x6, s4.2 + (nI 1)))) (v2, nI 0)) fun (v5 : Int32) => some v5
set_option maxRecDepth 20000 in
theorem w_162 {X : Nat × (Nat → Int32)} {d : Nat} {m : dM} {r : Int32} (hD : D162 m = some r) : ax_Ev X (d + 3) 162 [.ref 130] (stt m) (.inl (some (.int r))) (stt m) := by
  unfold D162 at hD
  show ax_Wp X (d + 2 + 1) 162 (0, [some (.ref 130), none, none], []) (stt m) _
  refine ax_Wp.go (f' := (4, [some (.ref 130), some (.int (nI 0)), some (.int (nI 0))], [])) 4 rfl ?_
  refine bnd hD (fun v2 hx hD => ?_)
  refine ax_Wp.jn (F := (27, [some (.ref 130), some (.int v2), none], [])) (hh := stt m) ?_ (fun kkv2 => ?_)
  · refine ax_Wp.go (f' := (29, [some (.ref 130), some (.int v2), some (.int (nI 0))], [])) 2 rfl ?_
    refine bnd hD (fun v5 hx hD => ?_)
    refine ax_Wp.jn (F := (51, [some (.ref 130), some (.int v5), none], [])) (hh := stt m) ?_ (fun kkv5 => ?_)
    · refine ax_Wp.go (f' := (52, [some (.ref 130), some (.int v5), none], [.int v5])) 1 rfl ?_
      obtain rfl := inj hD
      exact ax_Wp.ret rfl ⟨rfl, rfl⟩
    clear hD
    refine ax_Wp.lpD (fun (s4 : Int32 × Int32) => ((29, [some (.ref 130), some (.int s4.1), some (.int s4.2)], []), stt m)) ?_ hx
    clear hx
    intro s4 v hD ks4
    refine ax_Wp.go (f' := (31, [some (.ref 130), some (.int s4.1), some (.int s4.2)], [.int (nI 4), .int s4.2])) 2 rfl ?_
    refine ax_Wp.brD hD rfl (fun _ hD => ?_) (fun _ hD => ?_)
    · obtain rfl := inj hD
      obtain rfl := ks4.o
      exact ax_Wp.dead kkv5 ⟨.inl rfl, ⟨.inl rfl, ⟨.inr ⟨rfl, trivial⟩, trivial⟩⟩⟩
    · refine ax_Wp.go (f' := (40, [some (.ref 130), some (.int s4.1), some (.int s4.2)], [.int s4.2, .ref 130, .int (s4.1 * (nI 18))])) 5 rfl ?_
      refine bnd hD (fun x6 hx hD => ?_)
      refine ax_Wp.callE (f' := (43, [some (.ref 130), some (.int s4.1), some (.int s4.2)], [.int (s4.1 * (nI 18))])) rfl rfl (w_161 (d := d + 0) hx) rfl ?_
      refine ax_Wp.go (f' := (29, [some (.ref 130), some (.int ((s4.1 * (nI 18)) + x6)), some (.int (s4.2 + (nI 1)))], [])) 4 rfl ?_
      obtain rfl := inj hD
      exact ks4.i
  clear hD
  refine ax_Wp.lpD (fun (s1 : Int32 × Int32) => ((4, [some (.ref 130), some (.int s1.1), some (.int s1.2)], []), stt m)) ?_ hx
  clear hx
  intro s1 v hD ks1
  refine ax_Wp.go (f' := (6, [some (.ref 130), some (.int s1.1), some (.int s1.2)], [.int (nI 4), .int s1.2])) 2 rfl ?_
  refine ax_Wp.brD hD rfl (fun _ hD => ?_) (fun _ hD => ?_)
  · obtain rfl := inj hD
    obtain rfl := ks1.o
    exact ax_Wp.dead kkv2 ⟨.inl rfl, ⟨.inl rfl, ⟨.inr ⟨rfl, trivial⟩, trivial⟩⟩⟩
  · refine ax_Wp.go (f' := (16, [some (.ref 130), some (.int s1.1), some (.int s1.2)], [.int (nI 0), .int s1.2, .ref 130, .int (s1.1 * (nI 10))])) 6 rfl ?_
    refine bnd hD (fun x3 hx hD => ?_)
    refine ax_Wp.callE (f' := (19, [some (.ref 130), some (.int s1.1), some (.int s1.2)], [.int (s1.1 * (nI 10))])) rfl rfl (w_150 (d := d + 1) hx) rfl ?_
    refine ax_Wp.go (f' := (4, [some (.ref 130), some (.int ((s1.1 * (nI 10)) + x3)), some (.int (s1.2 + (nI 1)))], [])) 4 rfl ?_
    obtain rfl := inj hD
    exact ks1.i
def D163 (m : dM) : Option (Int32) := Option.bind (lp (β := Int32) 3000 (fun (s1 : Int32 × Int32) => if (nI 8) ≤ s1.2 then some (.inr s1.1) else (D161 m s1.2).bind fun (x3 : Int32) => some (.inl ((s1.1 * (nI 18)) + x3, s1.2 + (nI 1)))) (nI 0, nI 4)) fun (v2 : Int32) => some v2
set_option maxRecDepth 20000 in
theorem w_163 {X : Nat × (Nat → Int32)} {d : Nat} {m : dM} {r : Int32} (hD : D163 m = some r) : ax_Ev X (d + 3) 163 [.ref 130] (stt m) (.inl (some (.int r))) (stt m) := by
  unfold D163 at hD
  show ax_Wp X (d + 2 + 1) 163 (0, [some (.ref 130), none, none], []) (stt m) _
  refine ax_Wp.go (f' := (4, [some (.ref 130), some (.int (nI 0)), some (.int (nI 4))], [])) 4 rfl ?_
  refine bnd hD (fun v2 hx hD => ?_)
  refine ax_Wp.jn (F := (27, [some (.ref 130), some (.int v2), none], [])) (hh := stt m) ?_ (fun kkv2 => ?_)
  · refine ax_Wp.go (f' := (28, [some (.ref 130), some (.int v2), none], [.int v2])) 1 rfl ?_
    obtain rfl := inj hD
    exact ax_Wp.ret rfl ⟨rfl, rfl⟩
  clear hD
  refine ax_Wp.lpD (fun (s1 : Int32 × Int32) => ((4, [some (.ref 130), some (.int s1.1), some (.int s1.2)], []), stt m)) ?_ hx
  clear hx
  intro s1 v hD ks1
  refine ax_Wp.go (f' := (7, [some (.ref 130), some (.int s1.1), some (.int s1.2)], [.int (nI 8), .int s1.2])) 2 rfl ?_
  refine ax_Wp.brD hD rfl (fun _ hD => ?_) (fun _ hD => ?_)
  · obtain rfl := inj hD
    obtain rfl := ks1.o
    exact ax_Wp.dead kkv2 ⟨.inl rfl, ⟨.inl rfl, ⟨.inr ⟨rfl, trivial⟩, trivial⟩⟩⟩
  · refine ax_Wp.go (f' := (16, [some (.ref 130), some (.int s1.1), some (.int s1.2)], [.int s1.2, .ref 130, .int (s1.1 * (nI 18))])) 5 rfl ?_
    refine bnd hD (fun x3 hx hD => ?_)
    refine ax_Wp.callE (f' := (19, [some (.ref 130), some (.int s1.1), some (.int s1.2)], [.int (s1.1 * (nI 18))])) rfl rfl (w_161 (d := d + 0) hx) rfl ?_
    refine ax_Wp.go (f' := (4, [some (.ref 130), some (.int ((s1.1 * (nI 18)) + x3)), some (.int (s1.2 + (nI 1)))], [])) 4 rfl ?_
    obtain rfl := inj hD
    exact ks1.i
def D164 (m : dM) : Option (dM) := (D162 m).bind fun (x1 : Int32) => (sI m 131 299 ((nI 175) + ((nI 2) * (rI m 131 174))) x1).bind fun (m2 : dM) => (D163 m2).bind fun (x3 : Int32) => (sI m2 131 299 (((nI 175) + ((nI 2) * (rI m2 131 174))) + (nI 1)) x3).bind fun (m4 : dM) => (sI m4 131 299 (nI 174) ((rI m4 131 174) + (nI 1))).bind fun (m5 : dM) => some m5
set_option maxRecDepth 20000 in
theorem w_164 {X : Nat × (Nat → Int32)} {d : Nat} {m : dM} {r : dM} (hD : D164 m = some r) : ax_Ev X (d + 4) 164 [.ref 130] (stt m) (.inl none) (stt r) := by
  unfold D164 at hD
  show ax_Wp X (d + 3 + 1) 164 (0, [some (.ref 130)], []) (stt m) _
  refine ax_Wp.go (f' := (19, [some (.ref 130)], [.ref 130, .int ((nI 175) + ((nI 2) * (rI m 131 174))), .ref 131])) 11 rfl ?_
  refine bnd hD (fun x1 hx hD => ?_)
  refine ax_Wp.callE (f' := (22, [some (.ref 130)], [.int ((nI 175) + ((nI 2) * (rI m 131 174))), .ref 131])) rfl rfl (w_162 (d := d + 0) hx) rfl ?_
  refine ax_Wp.wrI hD rfl rfl (fun _ => rfl) (fun m2 hD => ?_)
  refine ax_Wp.go (f' := (44, [some (.ref 130)], [.ref 130, .int (((nI 175) + ((nI 2) * (rI m2 131 174))) + (nI 1)), .ref 131])) 13 rfl ?_
  refine bnd hD (fun x3 hx hD => ?_)
  refine ax_Wp.callE (f' := (47, [some (.ref 130)], [.int (((nI 175) + ((nI 2) * (rI m2 131 174))) + (nI 1)), .ref 131])) rfl rfl (w_163 (d := d + 0) hx) rfl ?_
  refine ax_Wp.wrI hD rfl rfl (fun _ => rfl) (fun m4 hD => ?_)
  refine ax_Wp.go (f' := (59, [some (.ref 130)], [.int ((rI m4 131 174) + (nI 1)), .int (nI 174), .ref 131])) 7 rfl ?_
  refine ax_Wp.wrI hD rfl rfl (fun _ => rfl) (fun m5 hD => ?_)
  obtain rfl := inj hD
  exact ax_Wp.ret rfl ⟨rfl, rfl⟩
def D165 (m : dM) : Option (dM) := (sI m 131 299 (nI 174) (nI 0)).bind fun (m1 : dM) => (D164 m1).bind fun (r2 : dM) => some r2
set_option maxRecDepth 20000 in
theorem w_165 {X : Nat × (Nat → Int32)} {d : Nat} {m : dM} {r : dM} (hD : D165 m = some r) : ax_Ev X (d + 5) 165 [.ref 130] (stt m) (.inl none) (stt r) := by
  unfold D165 at hD
  show ax_Wp X (d + 4 + 1) 165 (0, [some (.ref 130)], []) (stt m) _
  refine ax_Wp.go (f' := (8, [some (.ref 130)], [.int (nI 0), .int (nI 174), .ref 131])) 4 rfl ?_
  refine ax_Wp.wrI hD rfl rfl (fun _ => rfl) (fun m1 hD => ?_)
  refine ax_Wp.go (f' := (10, [some (.ref 130)], [.ref 130])) 1 rfl ?_
  refine bnd hD (fun r2 hx hD => ?_)
  refine ax_Wp.callE (f' := (13, [some (.ref 130)], [])) rfl rfl (w_164 (d := d + 0) hx) rfl ?_
  obtain rfl := inj hD
  exact ax_Wp.ret rfl ⟨rfl, rfl⟩
def D180 (m : dM) (p0 : Int32) (p1 : Int32) : Option (Int32 × dM) := (fI m 130 7 (nI 0)).bind fun (m1 : dM) => (D146 p0).bind fun (x2 : Int32) => if x2 = (nI 0) then (D143 m1 (nI 1)).bind fun (r3 : Int32 × dM) => some (r3.1, r3.2) else (D145 p1).bind fun (x4 : Int32) => if x4 = (nI 0) then (D143 m1 (nI 1)).bind fun (r5 : Int32 × dM) => some (r5.1, r5.2) else lp (β := Int32 × dM) 3000 (fun (s6 : Int32) => if (nI 4) ≤ s6 then (D149 m1).bind fun (r7 : dM) => (D150 r7 p0 (nI 0)).bind fun (x8 : Int32) => (D151 r7 p0 (nI 0) p1).bind fun (r9 : dM) => (D151 r9 p0 (nI 2) (-1)).bind fun (r10 : dM) => (D165 r10).bind fun (r11 : dM) => some (.inr (x8, r11)) else if s6 = p0 then some (.inl (s6 + (nI 1))) else (D150 m1 s6 (nI 0)).bind fun (x12 : Int32) => if x12 = p1 then (D143 m1 (nI 2)).bind fun (r13 : Int32 × dM) => some (.inr (r13.1, r13.2)) else some (.inl (s6 + (nI 1)))) (nI 0)
set_option maxRecDepth 20000 in
theorem w_180 {X : Nat × (Nat → Int32)} {d : Nat} {m : dM} {p0 : Int32} {p1 : Int32} {r : Int32 × dM} (hD : D180 m p0 p1 = some r) : ax_Ev X (d + 6) 180 [.ref 130, .int p0, .int p1] (stt m) (.inl (some (.int r.1))) (stt r.2) := by
  unfold D180 at hD
  show ax_Wp X (d + 5 + 1) 180 (0, [some (.ref 130), some (.int p0), some (.int p1), none], []) (stt m) _
  refine ax_Wp.go (f' := (2, [some (.ref 130), some (.int p0), some (.int p1), none], [.int (nI 0), .ref 130])) 2 rfl ?_
  refine ax_Wp.ptI hD rfl rfl rfl (fun m1 hD => ?_)
  refine ax_Wp.go (f' := (6, [some (.ref 130), some (.int p0), some (.int p1), none], [.int p0])) 1 rfl ?_
  refine bnd hD (fun x2 hx hD => ?_)
  refine ax_Wp.callE (f' := (9, [some (.ref 130), some (.int p0), some (.int p1), none], [])) rfl rfl (w_146 (d := d + 3) hx) rfl ?_
  refine ax_Wp.brD hD rfl (fun _ hD => ?_) (fun _ hD => ?_)
  · refine ax_Wp.go (f' := (21, [some (.ref 130), some (.int p0), some (.int p1), none], [.int (nI 1), .ref 130])) 2 rfl ?_
    refine bnd hD (fun r3 hx hD => ?_)
    refine ax_Wp.callE (f' := (24, [some (.ref 130), some (.int p0), some (.int p1), none], [])) rfl rfl (w_143 (d := d + 4) hx) rfl ?_
    obtain rfl := inj hD
    exact ax_Wp.ret rfl ⟨rfl, rfl⟩
  · refine ax_Wp.go (f' := (13, [some (.ref 130), some (.int p0), some (.int p1), none], [.int p1])) 1 rfl ?_
    refine bnd hD (fun x4 hx hD => ?_)
    refine ax_Wp.callE (f' := (16, [some (.ref 130), some (.int p0), some (.int p1), none], [])) rfl rfl (w_145 (d := d + 3) hx) rfl ?_
    refine ax_Wp.brD hD rfl (fun _ hD => ?_) (fun _ hD => ?_)
    · refine ax_Wp.go (f' := (21, [some (.ref 130), some (.int p0), some (.int p1), none], [.int (nI 1), .ref 130])) 2 rfl ?_
      refine bnd hD (fun r5 hx hD => ?_)
      refine ax_Wp.callE (f' := (24, [some (.ref 130), some (.int p0), some (.int p1), none], [])) rfl rfl (w_143 (d := d + 4) hx) rfl ?_
      obtain rfl := inj hD
      exact ax_Wp.ret rfl ⟨rfl, rfl⟩
    · refine ax_Wp.go (f' := (27, [some (.ref 130), some (.int p0), some (.int p1), some (.int (nI 0))], [])) 2 rfl ?_
      refine ax_Wp.lpD (fun (s6 : Int32) => ((27, [some (.ref 130), some (.int p0), some (.int p1), some (.int s6)], []), stt m1)) ?_ hD
      clear hD
      intro s6 v hD ks6
      refine ax_Wp.go (f' := (29, [some (.ref 130), some (.int p0), some (.int p1), some (.int s6)], [.int (nI 4), .int s6])) 2 rfl ?_
      refine ax_Wp.brD hD rfl (fun _ hD => ?_) (fun _ hD => ?_)
      · refine ax_Wp.go (f' := (60, [some (.ref 130), some (.int p0), some (.int p1), some (.int s6)], [.ref 130])) 1 rfl ?_
        refine bnd hD (fun r7 hx hD => ?_)
        refine ax_Wp.callE (f' := (63, [some (.ref 130), some (.int p0), some (.int p1), some (.int s6)], [])) rfl rfl (w_149 (d := d + 4) hx) rfl ?_
        refine ax_Wp.go (f' := (66, [some (.ref 130), some (.int p0), some (.int p1), some (.int s6)], [.int (nI 0), .int p0, .ref 130])) 3 rfl ?_
        refine bnd hD (fun x8 hx hD => ?_)
        refine ax_Wp.callE (f' := (69, [some (.ref 130), some (.int p0), some (.int p1), some (.int s6)], [])) rfl rfl (w_150 (d := d + 4) hx) rfl ?_
        refine ax_Wp.go (f' := (74, [some (.ref 130), some (.int p0), some (.int p1), some (.int x8)], [.int p1, .int (nI 0), .int p0, .ref 130])) 5 rfl ?_
        refine bnd hD (fun r9 hx hD => ?_)
        refine ax_Wp.callE (f' := (77, [some (.ref 130), some (.int p0), some (.int p1), some (.int x8)], [])) rfl rfl (w_151 (d := d + 4) hx) rfl ?_
        refine ax_Wp.go (f' := (81, [some (.ref 130), some (.int p0), some (.int p1), some (.int x8)], [.int (-1), .int (nI 2), .int p0, .ref 130])) 4 rfl ?_
        refine bnd hD (fun r10 hx hD => ?_)
        refine ax_Wp.callE (f' := (84, [some (.ref 130), some (.int p0), some (.int p1), some (.int x8)], [])) rfl rfl (w_151 (d := d + 4) hx) rfl ?_
        refine ax_Wp.go (f' := (85, [some (.ref 130), some (.int p0), some (.int p1), some (.int x8)], [.ref 130])) 1 rfl ?_
        refine bnd hD (fun r11 hx hD => ?_)
        refine ax_Wp.callE (f' := (88, [some (.ref 130), some (.int p0), some (.int p1), some (.int x8)], [])) rfl rfl (w_165 (d := d + 0) hx) rfl ?_
        refine ax_Wp.go (f' := (89, [some (.ref 130), some (.int p0), some (.int p1), some (.int x8)], [.int x8])) 1 rfl ?_
        obtain rfl := inj hD
        obtain rfl := ks6.o
        exact ax_Wp.ret rfl ⟨rfl, rfl⟩
      · refine ax_Wp.go (f' := (34, [some (.ref 130), some (.int p0), some (.int p1), some (.int s6)], [.int p0, .int s6])) 2 rfl ?_
        refine ax_Wp.brD hD rfl (fun _ hD => ?_) (fun _ hD => ?_)
        · refine ax_Wp.go (f' := (27, [some (.ref 130), some (.int p0), some (.int p1), some (.int (s6 + (nI 1)))], [])) 2 rfl ?_
          obtain rfl := inj hD
          exact ks6.i
        · refine ax_Wp.go (f' := (40, [some (.ref 130), some (.int p0), some (.int p1), some (.int s6)], [.int (nI 0), .int s6, .ref 130])) 3 rfl ?_
          refine bnd hD (fun x12 hx hD => ?_)
          refine ax_Wp.callE (f' := (43, [some (.ref 130), some (.int p0), some (.int p1), some (.int s6)], [])) rfl rfl (w_150 (d := d + 4) hx) rfl ?_
          refine ax_Wp.go (f' := (44, [some (.ref 130), some (.int p0), some (.int p1), some (.int s6)], [.int p1, .int x12])) 1 rfl ?_
          refine ax_Wp.brD hD rfl (fun _ hD => ?_) (fun _ hD => ?_)
          · refine ax_Wp.go (f' := (49, [some (.ref 130), some (.int p0), some (.int p1), some (.int s6)], [.int (nI 2), .ref 130])) 2 rfl ?_
            refine bnd hD (fun r13 hx hD => ?_)
            refine ax_Wp.callE (f' := (52, [some (.ref 130), some (.int p0), some (.int p1), some (.int s6)], [])) rfl rfl (w_143 (d := d + 4) hx) rfl ?_
            obtain rfl := inj hD
            obtain rfl := ks6.o
            exact ax_Wp.ret rfl ⟨rfl, rfl⟩
          · refine ax_Wp.go (f' := (27, [some (.ref 130), some (.int p0), some (.int p1), some (.int (s6 + (nI 1)))], [])) 2 rfl ?_
            obtain rfl := inj hD
            exact ks6.i
def D158 (m : dM) (p0 : Int32) : Option (Int32) := Option.bind (lp (β := Int32) 3000 (fun (s1 : Int32 × Int32) => if (rI m 131 117) ≤ s1.2 then some (.inr s1.1) else (D152 m s1.2 (nI 4)).bind fun (x3 : Int32) => Option.bind ((if x3 = (nI 1) then (D152 m s1.2 (nI 5)).bind fun (x5 : Int32) => if x5 = p0 then (D152 m s1.2 (nI 2)).bind fun (x6 : Int32) => some x6 else some (nI 0) else some (nI 0)) : Option (Int32)) fun (v4 : Int32) => some (.inl (s1.1 + v4, s1.2 + (nI 1)))) (nI 0, nI 0)) fun (v2 : Int32) => some v2
set_option maxRecDepth 20000 in
theorem w_158 {X : Nat × (Nat → Int32)} {d : Nat} {m : dM} {p0 : Int32} {r : Int32} (hD : D158 m p0 = some r) : ax_Ev X (d + 2) 158 [.ref 130, .int p0] (stt m) (.inl (some (.int r))) (stt m) := by
  unfold D158 at hD
  show ax_Wp X (d + 1 + 1) 158 (0, [some (.ref 130), some (.int p0), none, none], []) (stt m) _
  refine ax_Wp.go (f' := (4, [some (.ref 130), some (.int p0), some (.int (nI 0)), some (.int (nI 0))], [])) 4 rfl ?_
  refine bnd hD (fun v2 hx hD => ?_)
  refine ax_Wp.jn (F := (54, [some (.ref 130), none, some (.int v2), none], [])) (hh := stt m) ?_ (fun kkv2 => ?_)
  · refine ax_Wp.go (f' := (55, [some (.ref 130), none, some (.int v2), none], [.int v2])) 1 rfl ?_
    obtain rfl := inj hD
    exact ax_Wp.ret rfl ⟨rfl, rfl⟩
  clear hD
  refine ax_Wp.lpD (fun (s1 : Int32 × Int32) => ((4, [some (.ref 130), some (.int p0), some (.int s1.1), some (.int s1.2)], []), stt m)) ?_ hx
  clear hx
  intro s1 v hD ks1
  refine ax_Wp.go (f' := (12, [some (.ref 130), some (.int p0), some (.int s1.1), some (.int s1.2)], [.int (rI m 131 117), .int s1.2])) 5 rfl ?_
  refine ax_Wp.brD hD rfl (fun _ hD => ?_) (fun _ hD => ?_)
  · obtain rfl := inj hD
    obtain rfl := ks1.o
    exact ax_Wp.dead kkv2 ⟨.inl rfl, ⟨.inr ⟨rfl, trivial⟩, ⟨.inl rfl, ⟨.inr ⟨rfl, trivial⟩, trivial⟩⟩⟩⟩
  · refine ax_Wp.go (f' := (19, [some (.ref 130), some (.int p0), some (.int s1.1), some (.int s1.2)], [.int (nI 4), .int s1.2, .ref 130, .int s1.1])) 4 rfl ?_
    refine bnd hD (fun x3 hx hD => ?_)
    refine ax_Wp.callE (f' := (22, [some (.ref 130), some (.int p0), some (.int s1.1), some (.int s1.2)], [.int s1.1])) rfl rfl (w_152 (d := d + 0) hx) rfl ?_
    refine ax_Wp.go (f' := (23, [some (.ref 130), some (.int p0), some (.int s1.1), some (.int s1.2)], [.int (nI 1), .int x3, .int s1.1])) 1 rfl ?_
    refine bnd hD (fun v4 hx hD => ?_)
    refine ax_Wp.jn (F := (46, [some (.ref 130), some (.int p0), none, some (.int s1.2)], [.int v4, .int s1.1])) (hh := stt m) ?_ (fun kkv4 => ?_)
    · refine ax_Wp.go (f' := (4, [some (.ref 130), some (.int p0), some (.int (s1.1 + v4)), some (.int (s1.2 + (nI 1)))], [])) 4 rfl ?_
      obtain rfl := inj hD
      exact ks1.i
    clear hD
    have hD := hx
    clear hx
    refine ax_Wp.brD hD rfl (fun _ hD => ?_) (fun _ hD => ?_)
    · refine ax_Wp.go (f' := (29, [some (.ref 130), some (.int p0), some (.int s1.1), some (.int s1.2)], [.int (nI 5), .int s1.2, .ref 130, .int s1.1])) 3 rfl ?_
      refine bnd hD (fun x5 hx hD => ?_)
      refine ax_Wp.callE (f' := (32, [some (.ref 130), some (.int p0), some (.int s1.1), some (.int s1.2)], [.int s1.1])) rfl rfl (w_152 (d := d + 0) hx) rfl ?_
      refine ax_Wp.go (f' := (33, [some (.ref 130), some (.int p0), some (.int s1.1), some (.int s1.2)], [.int p0, .int x5, .int s1.1])) 1 rfl ?_
      refine ax_Wp.brD hD rfl (fun _ hD => ?_) (fun _ hD => ?_)
      · refine ax_Wp.go (f' := (39, [some (.ref 130), some (.int p0), some (.int s1.1), some (.int s1.2)], [.int (nI 2), .int s1.2, .ref 130, .int s1.1])) 3 rfl ?_
        refine bnd hD (fun x6 hx hD => ?_)
        refine ax_Wp.callE (f' := (42, [some (.ref 130), some (.int p0), some (.int s1.1), some (.int s1.2)], [.int s1.1])) rfl rfl (w_152 (d := d + 0) hx) rfl ?_
        refine ax_Wp.go (f' := (46, [some (.ref 130), some (.int p0), some (.int s1.1), some (.int s1.2)], [.int x6, .int s1.1])) 1 rfl ?_
        obtain rfl := inj hD
        exact ax_Wp.dead kkv4 ⟨.inl rfl, ⟨.inl rfl, ⟨.inr ⟨rfl, trivial⟩, ⟨.inl rfl, trivial⟩⟩⟩⟩
      · refine ax_Wp.go (f' := (46, [some (.ref 130), some (.int p0), some (.int s1.1), some (.int s1.2)], [.int (nI 0), .int s1.1])) 1 rfl ?_
        obtain rfl := inj hD
        exact ax_Wp.dead kkv4 ⟨.inl rfl, ⟨.inl rfl, ⟨.inr ⟨rfl, trivial⟩, ⟨.inl rfl, trivial⟩⟩⟩⟩
    · refine ax_Wp.go (f' := (46, [some (.ref 130), some (.int p0), some (.int s1.1), some (.int s1.2)], [.int (nI 0), .int s1.1])) 1 rfl ?_
      obtain rfl := inj hD
      exact ax_Wp.dead kkv4 ⟨.inl rfl, ⟨.inl rfl, ⟨.inr ⟨rfl, trivial⟩, ⟨.inl rfl, trivial⟩⟩⟩⟩
def D159 (p0 : Int32) (p1 : Int32) (p2 : Int32) : Option (Int32) := Option.bind ((if p1 = (nI 1) then some ((nI 2) * p2) else some p2) : Option (Int32)) fun (v1 : Int32) => some v1
set_option maxRecDepth 20000 in
theorem w_159 {X : Nat × (Nat → Int32)} {d : Nat} {m : dM} {p0 : Int32} {p1 : Int32} {p2 : Int32} {r : Int32} (hD : D159 p0 p1 p2 = some r) : ax_Ev X (d + 1) 159 [.ref 130, .int p0, .int p1, .int p2] (stt m) (.inl (some (.int r))) (stt m) := by
  unfold D159 at hD
  show ax_Wp X (d + 0 + 1) 159 (0, [some (.ref 130), some (.int p0), some (.int p1), some (.int p2)], []) (stt m) _
  refine ax_Wp.go (f' := (2, [some (.ref 130), some (.int p0), some (.int p1), some (.int p2)], [.int (nI 1), .int p1])) 2 rfl ?_
  refine bnd hD (fun v1 hx hD => ?_)
  refine ax_Wp.jn (F := (12, [some (.ref 130), none, none, none], [.int v1])) (hh := stt m) ?_ (fun kkv1 => ?_)
  · obtain rfl := inj hD
    exact ax_Wp.ret rfl ⟨rfl, rfl⟩
  clear hD
  have hD := hx
  clear hx
  refine ax_Wp.brD hD rfl (fun _ hD => ?_) (fun _ hD => ?_)
  · refine ax_Wp.go (f' := (12, [some (.ref 130), some (.int p0), some (.int p1), some (.int p2)], [.int ((nI 2) * p2)])) 4 rfl ?_
    obtain rfl := inj hD
    exact ax_Wp.dead kkv1 ⟨.inl rfl, ⟨.inr ⟨rfl, trivial⟩, ⟨.inr ⟨rfl, trivial⟩, ⟨.inr ⟨rfl, trivial⟩, trivial⟩⟩⟩⟩
  · refine ax_Wp.go (f' := (12, [some (.ref 130), some (.int p0), some (.int p1), some (.int p2)], [.int p2])) 1 rfl ?_
    obtain rfl := inj hD
    exact ax_Wp.dead kkv1 ⟨.inl rfl, ⟨.inr ⟨rfl, trivial⟩, ⟨.inr ⟨rfl, trivial⟩, ⟨.inr ⟨rfl, trivial⟩, trivial⟩⟩⟩⟩
def D156 (m : dM) (p0 : Int32) : Option (Int32) := (gI m 131 299 (((nI 1) + ((nI 4) * p0)) + (nI 2))).bind fun (x1 : Int32) => Option.bind ((if x1 = (nI 1) then some (nI 1) else some (nI 0)) : Option (Int32)) fun (v2 : Int32) => (gB v2).bind fun (b3 : Int32) => some b3
set_option maxRecDepth 20000 in
theorem w_156 {X : Nat × (Nat → Int32)} {d : Nat} {m : dM} {p0 : Int32} {r : Int32} (hD : D156 m p0 = some r) : ax_Ev X (d + 1) 156 [.ref 130, .int p0] (stt m) (.inl (some (.int r))) (stt m) := by
  unfold D156 at hD
  show ax_Wp X (d + 0 + 1) 156 (0, [some (.ref 130), some (.int p0)], []) (stt m) _
  refine ax_Wp.go (f' := (11, [some (.ref 130), some (.int p0)], [.int (((nI 1) + ((nI 4) * p0)) + (nI 2)), .ref 131])) 9 rfl ?_
  refine ax_Wp.rdI hD rfl rfl rfl (fun x1 hD => ?_)
  refine ax_Wp.go (f' := (13, [some (.ref 130), some (.int p0)], [.int (nI 1), .int x1])) 1 rfl ?_
  refine bnd hD (fun v2 hx hD => ?_)
  refine ax_Wp.jn (F := (21, [some (.ref 130), none], [.int v2])) (hh := stt m) ?_ (fun kkv2 => ?_)
  · refine ax_Wp.retB hD rfl (fun b3 hD => ?_)
    obtain rfl := inj hD
    exact ⟨rfl, rfl⟩
  clear hD
  have hD := hx
  clear hx
  refine ax_Wp.brD hD rfl (fun _ hD => ?_) (fun _ hD => ?_)
  · refine ax_Wp.go (f' := (21, [some (.ref 130), some (.int p0)], [.int (nI 1)])) 2 rfl ?_
    obtain rfl := inj hD
    exact ax_Wp.dead kkv2 ⟨.inl rfl, ⟨.inr ⟨rfl, trivial⟩, trivial⟩⟩
  · refine ax_Wp.go (f' := (21, [some (.ref 130), some (.int p0)], [.int (nI 0)])) 1 rfl ?_
    obtain rfl := inj hD
    exact ax_Wp.dead kkv2 ⟨.inl rfl, ⟨.inr ⟨rfl, trivial⟩, trivial⟩⟩
def D181 (m : dM) (p0 : Int32) : Option (Int32 × dM) := (D146 p0).bind fun (x1 : Int32) => Option.bind ((if x1 = (nI 0) then some (nI 1) else (D158 m p0).bind fun (x3 : Int32) => (D150 m p0 (nI 1)).bind fun (x4 : Int32) => (D159 p0 ((nI 1) - x4) (rI m 131 166)).bind fun (x5 : Int32) => if x3 ≤ x5 then some (nI 0) else some (nI 2)) : Option (Int32)) fun (v2 : Int32) => (fI m 130 7 v2).bind fun (m6 : dM) => if (rI m6 130 7) ≤ (nI 0) then (D149 m6).bind fun (r7 : dM) => (D150 r7 p0 (nI 1)).bind fun (x8 : Int32) => (D151 r7 p0 (nI 1) ((nI 1) - x8)).bind fun (r9 : dM) => (D150 r9 p0 (nI 1)).bind fun (x10 : Int32) => Option.bind ((if x10 = (nI 1) then some (nI 1) else some (nI 0)) : Option (Int32)) fun (v11 : Int32) => (D150 r9 p0 (nI 2)).bind fun (x12 : Int32) => Option.bind ((if v11 = (nI 0) then some x12 else if x12 = (-1) then some x12 else (D156 r9 x12).bind fun (x14 : Int32) => if x14 = (nI 0) then some x12 else some (-1)) : Option (Int32)) fun (v13 : Int32) => (D151 r9 p0 (nI 2) v13).bind fun (r15 : dM) => (gB v11).bind fun (b16 : Int32) => some (b16, r15) else some (nI 0, m6)
set_option maxRecDepth 20000 in
theorem w_181 {X : Nat × (Nat → Int32)} {d : Nat} {m : dM} {p0 : Int32} {r : Int32 × dM} (hD : D181 m p0 = some r) : ax_Ev X (d + 3) 181 [.ref 130, .int p0] (stt m) (.inl (some (.int r.1))) (stt r.2) := by
  unfold D181 at hD
  show ax_Wp X (d + 2 + 1) 181 (0, [some (.ref 130), some (.int p0), none, none], []) (stt m) _
  refine ax_Wp.go (f' := (2, [some (.ref 130), some (.int p0), none, none], [.int p0, .ref 130])) 2 rfl ?_
  refine bnd hD (fun x1 hx hD => ?_)
  refine ax_Wp.callE (f' := (5, [some (.ref 130), some (.int p0), none, none], [.ref 130])) rfl rfl (w_146 (d := d + 0) hx) rfl ?_
  refine bnd hD (fun v2 hx hD => ?_)
  refine ax_Wp.jn (F := (46, [some (.ref 130), some (.int p0), none, none], [.int v2, .ref 130])) (hh := stt m) ?_ (fun kkv2 => ?_)
  · refine ax_Wp.ptI hD rfl rfl rfl (fun m6 hD => ?_)
    refine ax_Wp.go (f' := (53, [some (.ref 130), some (.int p0), none, none], [.int (rI m6 130 7)])) 2 rfl ?_
    refine ax_Wp.brD hD rfl (fun _ hD => ?_) (fun _ hD => ?_)
    · refine ax_Wp.go (f' := (59, [some (.ref 130), some (.int p0), none, none], [.ref 130])) 1 rfl ?_
      refine bnd hD (fun r7 hx hD => ?_)
      refine ax_Wp.callE (f' := (62, [some (.ref 130), some (.int p0), none, none], [])) rfl rfl (w_149 (d := d + 1) hx) rfl ?_
      refine ax_Wp.go (f' := (69, [some (.ref 130), some (.int p0), none, none], [.int (nI 1), .int p0, .ref 130, .int (nI 1), .int (nI 1), .int p0, .ref 130])) 7 rfl ?_
      refine bnd hD (fun x8 hx hD => ?_)
      refine ax_Wp.callE (f' := (72, [some (.ref 130), some (.int p0), none, none], [.int (nI 1), .int (nI 1), .int p0, .ref 130])) rfl rfl (w_150 (d := d + 1) hx) rfl ?_
      refine ax_Wp.go (f' := (73, [some (.ref 130), some (.int p0), none, none], [.int ((nI 1) - x8), .int (nI 1), .int p0, .ref 130])) 1 rfl ?_
      refine bnd hD (fun r9 hx hD => ?_)
      refine ax_Wp.callE (f' := (76, [some (.ref 130), some (.int p0), none, none], [])) rfl rfl (w_151 (d := d + 1) hx) rfl ?_
      refine ax_Wp.go (f' := (79, [some (.ref 130), some (.int p0), none, none], [.int (nI 1), .int p0, .ref 130])) 3 rfl ?_
      refine bnd hD (fun x10 hx hD => ?_)
      refine ax_Wp.callE (f' := (82, [some (.ref 130), some (.int p0), none, none], [])) rfl rfl (w_150 (d := d + 1) hx) rfl ?_
      refine ax_Wp.go (f' := (83, [some (.ref 130), some (.int p0), none, none], [.int (nI 1), .int x10])) 1 rfl ?_
      refine bnd hD (fun v11 hx hD => ?_)
      refine ax_Wp.jn (F := (91, [some (.ref 130), some (.int p0), none, none], [.int v11])) (hh := stt r9) ?_ (fun kkv11 => ?_)
      · refine ax_Wp.go (f' := (95, [some (.ref 130), some (.int p0), some (.int v11), none], [.int (nI 2), .int p0, .ref 130])) 4 rfl ?_
        refine bnd hD (fun x12 hx hD => ?_)
        refine ax_Wp.callE (f' := (98, [some (.ref 130), some (.int p0), some (.int v11), none], [])) rfl rfl (w_150 (d := d + 1) hx) rfl ?_
        refine ax_Wp.go (f' := (103, [some (.ref 130), some (.int p0), some (.int v11), some (.int x12)], [.int v11, .int (nI 2), .int p0, .ref 130])) 5 rfl ?_
        refine bnd hD (fun v13 hx hD => ?_)
        refine ax_Wp.jn (F := (124, [some (.ref 130), none, some (.int v11), none], [.int v13, .int (nI 2), .int p0, .ref 130])) (hh := stt r9) ?_ (fun kkv13 => ?_)
        · refine bnd hD (fun r15 hx hD => ?_)
          refine ax_Wp.callE (f' := (127, [some (.ref 130), none, some (.int v11), none], [])) rfl rfl (w_151 (d := d + 1) hx) rfl ?_
          refine ax_Wp.go (f' := (128, [some (.ref 130), none, some (.int v11), none], [.int v11])) 1 rfl ?_
          refine ax_Wp.retB hD rfl (fun b16 hD => ?_)
          obtain rfl := inj hD
          exact ⟨rfl, rfl⟩
        clear hD
        have hD := hx
        clear hx
        refine ax_Wp.brD hD rfl (fun _ hD => ?_) (fun _ hD => ?_)
        · refine ax_Wp.go (f' := (124, [some (.ref 130), some (.int p0), some (.int v11), some (.int x12)], [.int x12, .int (nI 2), .int p0, .ref 130])) 1 rfl ?_
          obtain rfl := inj hD
          exact ax_Wp.dead kkv13 ⟨.inl rfl, ⟨.inr ⟨rfl, trivial⟩, ⟨.inl rfl, ⟨.inr ⟨rfl, trivial⟩, trivial⟩⟩⟩⟩
        · refine ax_Wp.go (f' := (108, [some (.ref 130), some (.int p0), some (.int v11), some (.int x12)], [.int (-1), .int x12, .int (nI 2), .int p0, .ref 130])) 2 rfl ?_
          refine ax_Wp.brD hD rfl (fun _ hD => ?_) (fun _ hD => ?_)
          · refine ax_Wp.go (f' := (124, [some (.ref 130), some (.int p0), some (.int v11), some (.int x12)], [.int x12, .int (nI 2), .int p0, .ref 130])) 1 rfl ?_
            obtain rfl := inj hD
            exact ax_Wp.dead kkv13 ⟨.inl rfl, ⟨.inr ⟨rfl, trivial⟩, ⟨.inl rfl, ⟨.inr ⟨rfl, trivial⟩, trivial⟩⟩⟩⟩
          · refine ax_Wp.go (f' := (113, [some (.ref 130), some (.int p0), some (.int v11), some (.int x12)], [.int x12, .ref 130, .int (nI 2), .int p0, .ref 130])) 2 rfl ?_
            refine bnd hD (fun x14 hx hD => ?_)
            refine ax_Wp.callE (f' := (116, [some (.ref 130), some (.int p0), some (.int v11), some (.int x12)], [.int (nI 2), .int p0, .ref 130])) rfl rfl (w_156 (d := d + 1) hx) rfl ?_
            refine ax_Wp.brD hD rfl (fun _ hD => ?_) (fun _ hD => ?_)
            · refine ax_Wp.go (f' := (124, [some (.ref 130), some (.int p0), some (.int v11), some (.int x12)], [.int x12, .int (nI 2), .int p0, .ref 130])) 1 rfl ?_
              obtain rfl := inj hD
              exact ax_Wp.dead kkv13 ⟨.inl rfl, ⟨.inr ⟨rfl, trivial⟩, ⟨.inl rfl, ⟨.inr ⟨rfl, trivial⟩, trivial⟩⟩⟩⟩
            · refine ax_Wp.go (f' := (124, [some (.ref 130), some (.int p0), some (.int v11), some (.int x12)], [.int (-1), .int (nI 2), .int p0, .ref 130])) 2 rfl ?_
              obtain rfl := inj hD
              exact ax_Wp.dead kkv13 ⟨.inl rfl, ⟨.inr ⟨rfl, trivial⟩, ⟨.inl rfl, ⟨.inr ⟨rfl, trivial⟩, trivial⟩⟩⟩⟩
      clear hD
      have hD := hx
      clear hx
      refine ax_Wp.brD hD rfl (fun _ hD => ?_) (fun _ hD => ?_)
      · refine ax_Wp.go (f' := (91, [some (.ref 130), some (.int p0), none, none], [.int (nI 1)])) 2 rfl ?_
        obtain rfl := inj hD
        exact kkv11
      · refine ax_Wp.go (f' := (91, [some (.ref 130), some (.int p0), none, none], [.int (nI 0)])) 1 rfl ?_
        obtain rfl := inj hD
        exact kkv11
    · refine ax_Wp.go (f' := (57, [some (.ref 130), some (.int p0), none, none], [.int (nI 0)])) 1 rfl ?_
      obtain rfl := inj hD
      exact ax_Wp.ret rfl ⟨rfl, rfl⟩
  clear hD
  have hD := hx
  clear hx
  refine ax_Wp.brD hD rfl (fun _ hD => ?_) (fun _ hD => ?_)
  · refine ax_Wp.go (f' := (46, [some (.ref 130), some (.int p0), none, none], [.int (nI 1), .ref 130])) 2 rfl ?_
    obtain rfl := inj hD
    exact kkv2
  · refine ax_Wp.go (f' := (14, [some (.ref 130), some (.int p0), none, none], [.int p0, .ref 130, .ref 130])) 2 rfl ?_
    refine bnd hD (fun x3 hx hD => ?_)
    refine ax_Wp.callE (f' := (17, [some (.ref 130), some (.int p0), none, none], [.ref 130])) rfl rfl (w_158 (d := d + 0) hx) rfl ?_
    refine ax_Wp.go (f' := (23, [some (.ref 130), some (.int p0), none, none], [.int (nI 1), .int p0, .ref 130, .int (nI 1), .int p0, .ref 130, .int x3, .ref 130])) 6 rfl ?_
    refine bnd hD (fun x4 hx hD => ?_)
    refine ax_Wp.callE (f' := (26, [some (.ref 130), some (.int p0), none, none], [.int (nI 1), .int p0, .ref 130, .int x3, .ref 130])) rfl rfl (w_150 (d := d + 1) hx) rfl ?_
    refine ax_Wp.go (f' := (35, [some (.ref 130), some (.int p0), none, none], [.int (rI m 131 166), .int ((nI 1) - x4), .int p0, .ref 130, .int x3, .ref 130])) 5 rfl ?_
    refine bnd hD (fun x5 hx hD => ?_)
    refine ax_Wp.callE (f' := (38, [some (.ref 130), some (.int p0), none, none], [.int x3, .ref 130])) rfl rfl (w_159 (d := d + 1) hx) rfl ?_
    refine ax_Wp.brD hD rfl (fun _ hD => ?_) (fun _ hD => ?_)
    · refine ax_Wp.go (f' := (46, [some (.ref 130), some (.int p0), none, none], [.int (nI 0), .ref 130])) 1 rfl ?_
      obtain rfl := inj hD
      exact kkv2
    · refine ax_Wp.go (f' := (46, [some (.ref 130), some (.int p0), none, none], [.int (nI 2), .ref 130])) 2 rfl ?_
      obtain rfl := inj hD
      exact kkv2
def D182 (m : dM) (p0 : Int32) : Option (Int32 × dM) := (fI m 130 7 (nI 0)).bind fun (m1 : dM) => (D144 p0 (nI 1) (nI 9)).bind fun (x2 : Int32) => if x2 = (nI 0) then (D143 m1 (nI 1)).bind fun (r3 : Int32 × dM) => some (r3.1, r3.2) else lp (β := Int32 × dM) 3000 (fun (s4 : Int32) => if (nI 4) ≤ s4 then (D149 m1).bind fun (r5 : dM) => (sI r5 131 299 (nI 166) p0).bind fun (m6 : dM) => some (.inr (rI r5 131 166, m6)) else (D158 m1 s4).bind fun (x7 : Int32) => (D150 m1 s4 (nI 1)).bind fun (x8 : Int32) => (D159 s4 x8 p0).bind fun (x9 : Int32) => if x7 ≤ x9 then some (.inl (s4 + (nI 1))) else (D143 m1 (nI 2)).bind fun (r10 : Int32 × dM) => some (.inr (r10.1, r10.2))) (nI 0)
set_option maxRecDepth 20000 in
theorem w_182 {X : Nat × (Nat → Int32)} {d : Nat} {m : dM} {p0 : Int32} {r : Int32 × dM} (hD : D182 m p0 = some r) : ax_Ev X (d + 3) 182 [.ref 130, .int p0] (stt m) (.inl (some (.int r.1))) (stt r.2) := by
  unfold D182 at hD
  show ax_Wp X (d + 2 + 1) 182 (0, [some (.ref 130), some (.int p0), none], []) (stt m) _
  refine ax_Wp.go (f' := (2, [some (.ref 130), some (.int p0), none], [.int (nI 0), .ref 130])) 2 rfl ?_
  refine ax_Wp.ptI hD rfl rfl rfl (fun m1 hD => ?_)
  refine ax_Wp.go (f' := (9, [some (.ref 130), some (.int p0), none], [.int (nI 9), .int (nI 1), .int p0])) 3 rfl ?_
  refine bnd hD (fun x2 hx hD => ?_)
  refine ax_Wp.callE (f' := (12, [some (.ref 130), some (.int p0), none], [])) rfl rfl (w_144 (d := d + 1) hx) rfl ?_
  refine ax_Wp.brD hD rfl (fun _ hD => ?_) (fun _ hD => ?_)
  · refine ax_Wp.go (f' := (17, [some (.ref 130), some (.int p0), none], [.int (nI 1), .ref 130])) 2 rfl ?_
    refine bnd hD (fun r3 hx hD => ?_)
    refine ax_Wp.callE (f' := (20, [some (.ref 130), some (.int p0), none], [])) rfl rfl (w_143 (d := d + 1) hx) rfl ?_
    obtain rfl := inj hD
    exact ax_Wp.ret rfl ⟨rfl, rfl⟩
  · refine ax_Wp.go (f' := (23, [some (.ref 130), some (.int p0), some (.int (nI 0))], [])) 2 rfl ?_
    refine ax_Wp.lpD (fun (s4 : Int32) => ((23, [some (.ref 130), some (.int p0), some (.int s4)], []), stt m1)) ?_ hD
    clear hD
    intro s4 v hD ks4
    refine ax_Wp.go (f' := (25, [some (.ref 130), some (.int p0), some (.int s4)], [.int (nI 4), .int s4])) 2 rfl ?_
    refine ax_Wp.brD hD rfl (fun _ hD => ?_) (fun _ hD => ?_)
    · refine ax_Wp.go (f' := (61, [some (.ref 130), some (.int p0), some (.int s4)], [.ref 130])) 1 rfl ?_
      refine bnd hD (fun r5 hx hD => ?_)
      refine ax_Wp.callE (f' := (64, [some (.ref 130), some (.int p0), some (.int s4)], [])) rfl rfl (w_149 (d := d + 1) hx) rfl ?_
      refine ax_Wp.go (f' := (81, [some (.ref 130), some (.int p0), some (.int (rI r5 131 166))], [.int p0, .int (nI 166), .ref 131])) 9 rfl ?_
      refine ax_Wp.wrI hD rfl rfl (fun _ => rfl) (fun m6 hD => ?_)
      refine ax_Wp.go (f' := (83, [some (.ref 130), some (.int p0), some (.int (rI r5 131 166))], [.int (rI r5 131 166)])) 1 rfl ?_
      obtain rfl := inj hD
      obtain rfl := ks4.o
      exact ax_Wp.ret rfl ⟨rfl, rfl⟩
    · refine ax_Wp.go (f' := (30, [some (.ref 130), some (.int p0), some (.int s4)], [.int s4, .ref 130])) 2 rfl ?_
      refine bnd hD (fun x7 hx hD => ?_)
      refine ax_Wp.callE (f' := (33, [some (.ref 130), some (.int p0), some (.int s4)], [])) rfl rfl (w_158 (d := d + 0) hx) rfl ?_
      refine ax_Wp.go (f' := (38, [some (.ref 130), some (.int p0), some (.int s4)], [.int (nI 1), .int s4, .ref 130, .int s4, .ref 130, .int x7])) 5 rfl ?_
      refine bnd hD (fun x8 hx hD => ?_)
      refine ax_Wp.callE (f' := (41, [some (.ref 130), some (.int p0), some (.int s4)], [.int s4, .ref 130, .int x7])) rfl rfl (w_150 (d := d + 1) hx) rfl ?_
      refine ax_Wp.go (f' := (42, [some (.ref 130), some (.int p0), some (.int s4)], [.int p0, .int x8, .int s4, .ref 130, .int x7])) 1 rfl ?_
      refine bnd hD (fun x9 hx hD => ?_)
      refine ax_Wp.callE (f' := (45, [some (.ref 130), some (.int p0), some (.int s4)], [.int x7])) rfl rfl (w_159 (d := d + 1) hx) rfl ?_
      refine ax_Wp.brD hD rfl (fun _ hD => ?_) (fun _ hD => ?_)
      · refine ax_Wp.go (f' := (23, [some (.ref 130), some (.int p0), some (.int (s4 + (nI 1)))], [])) 2 rfl ?_
        obtain rfl := inj hD
        exact ks4.i
      · refine ax_Wp.go (f' := (50, [some (.ref 130), some (.int p0), some (.int s4)], [.int (nI 2), .ref 130])) 2 rfl ?_
        refine bnd hD (fun r10 hx hD => ?_)
        refine ax_Wp.callE (f' := (53, [some (.ref 130), some (.int p0), some (.int s4)], [])) rfl rfl (w_143 (d := d + 1) hx) rfl ?_
        obtain rfl := inj hD
        obtain rfl := ks4.o
        exact ax_Wp.ret rfl ⟨rfl, rfl⟩
def D153 (m : dM) (p0 : Int32) (p1 : Int32) (p2 : Int32) : Option (dM) := (sI m 131 299 (((nI 118) + ((nI 6) * p0)) + p1) p2).bind fun (m1 : dM) => some m1
set_option maxRecDepth 20000 in
theorem w_153 {X : Nat × (Nat → Int32)} {d : Nat} {m : dM} {p0 : Int32} {p1 : Int32} {p2 : Int32} {r : dM} (hD : D153 m p0 p1 p2 = some r) : ax_Ev X (d + 1) 153 [.ref 130, .int p0, .int p1, .int p2] (stt m) (.inl none) (stt r) := by
  unfold D153 at hD
  show ax_Wp X (d + 0 + 1) 153 (0, [some (.ref 130), some (.int p0), some (.int p1), some (.int p2)], []) (stt m) _
  refine ax_Wp.go (f' := (14, [some (.ref 130), some (.int p0), some (.int p1), some (.int p2)], [.int p2, .int (((nI 118) + ((nI 6) * p0)) + p1), .ref 131])) 10 rfl ?_
  refine ax_Wp.wrI hD rfl rfl (fun _ => rfl) (fun m1 hD => ?_)
  obtain rfl := inj hD
  exact ax_Wp.ret rfl ⟨rfl, rfl⟩
def D183 (m : dM) (p0 : Int32) (p1 : Int32) (p2 : Int32) (p3 : Int32) : Option (Int32 × dM) := (fI m 130 7 (nI 0)).bind fun (m1 : dM) => (D145 p0).bind fun (x2 : Int32) => if x2 = (nI 0) then (D143 m1 (nI 1)).bind fun (r3 : Int32 × dM) => some (r3.1, r3.2) else (D145 p1).bind fun (x4 : Int32) => if x4 = (nI 0) then (D143 m1 (nI 1)).bind fun (r5 : Int32 × dM) => some (r5.1, r5.2) else if p0 = p1 then (D143 m1 (nI 2)).bind fun (r6 : Int32 × dM) => some (r6.1, r6.2) else (D144 p2 (nI 1) (nI 5)).bind fun (x7 : Int32) => if x7 = (nI 0) then (D143 m1 (nI 2)).bind fun (r8 : Int32 × dM) => some (r8.1, r8.2) else (D144 p3 (nI 1) (nI 9)).bind fun (x9 : Int32) => if x9 = (nI 0) then (D143 m1 (nI 2)).bind fun (r10 : Int32 × dM) => some (r10.1, r10.2) else if (rI m1 131 117) = (nI 8) then (D143 m1 (nI 3)).bind fun (r11 : Int32 × dM) => some (r11.1, r11.2) else (D149 m1).bind fun (r12 : dM) => (sI r12 131 299 (nI 117) ((rI r12 131 117) + (nI 1))).bind fun (m13 : dM) => (D153 m13 (rI r12 131 117) (nI 0) p0).bind fun (r14 : dM) => (D153 r14 (rI r12 131 117) (nI 1) p1).bind fun (r15 : dM) => (D153 r15 (rI r12 131 117) (nI 2) p2).bind fun (r16 : dM) => (D153 r16 (rI r12 131 117) (nI 3) p3).bind fun (r17 : dM) => (D153 r17 (rI r12 131 117) (nI 4) (nI 0)).bind fun (r18 : dM) => (D153 r18 (rI r12 131 117) (nI 5) (-1)).bind fun (r19 : dM) => (D165 r19).bind fun (r20 : dM) => some (rI r12 131 117, r20)
set_option maxRecDepth 20000 in
theorem w_183 {X : Nat × (Nat → Int32)} {d : Nat} {m : dM} {p0 : Int32} {p1 : Int32} {p2 : Int32} {p3 : Int32} {r : Int32 × dM} (hD : D183 m p0 p1 p2 p3 = some r) : ax_Ev X (d + 6) 183 [.ref 130, .int p0, .int p1, .int p2, .int p3] (stt m) (.inl (some (.int r.1))) (stt r.2) := by
  unfold D183 at hD
  show ax_Wp X (d + 5 + 1) 183 (0, [some (.ref 130), some (.int p0), some (.int p1), some (.int p2), some (.int p3), none], []) (stt m) _
  refine ax_Wp.go (f' := (2, [some (.ref 130), some (.int p0), some (.int p1), some (.int p2), some (.int p3), none], [.int (nI 0), .ref 130])) 2 rfl ?_
  refine ax_Wp.ptI hD rfl rfl rfl (fun m1 hD => ?_)
  refine ax_Wp.go (f' := (6, [some (.ref 130), some (.int p0), some (.int p1), some (.int p2), some (.int p3), none], [.int p0])) 1 rfl ?_
  refine bnd hD (fun x2 hx hD => ?_)
  refine ax_Wp.callE (f' := (9, [some (.ref 130), some (.int p0), some (.int p1), some (.int p2), some (.int p3), none], [])) rfl rfl (w_145 (d := d + 3) hx) rfl ?_
  refine ax_Wp.brD hD rfl (fun _ hD => ?_) (fun _ hD => ?_)
  · refine ax_Wp.go (f' := (21, [some (.ref 130), some (.int p0), some (.int p1), some (.int p2), some (.int p3), none], [.int (nI 1), .ref 130])) 2 rfl ?_
    refine bnd hD (fun r3 hx hD => ?_)
    refine ax_Wp.callE (f' := (24, [some (.ref 130), some (.int p0), some (.int p1), some (.int p2), some (.int p3), none], [])) rfl rfl (w_143 (d := d + 4) hx) rfl ?_
    obtain rfl := inj hD
    exact ax_Wp.ret rfl ⟨rfl, rfl⟩
  · refine ax_Wp.go (f' := (13, [some (.ref 130), some (.int p0), some (.int p1), some (.int p2), some (.int p3), none], [.int p1])) 1 rfl ?_
    refine bnd hD (fun x4 hx hD => ?_)
    refine ax_Wp.callE (f' := (16, [some (.ref 130), some (.int p0), some (.int p1), some (.int p2), some (.int p3), none], [])) rfl rfl (w_145 (d := d + 3) hx) rfl ?_
    refine ax_Wp.brD hD rfl (fun _ hD => ?_) (fun _ hD => ?_)
    · refine ax_Wp.go (f' := (21, [some (.ref 130), some (.int p0), some (.int p1), some (.int p2), some (.int p3), none], [.int (nI 1), .ref 130])) 2 rfl ?_
      refine bnd hD (fun r5 hx hD => ?_)
      refine ax_Wp.callE (f' := (24, [some (.ref 130), some (.int p0), some (.int p1), some (.int p2), some (.int p3), none], [])) rfl rfl (w_143 (d := d + 4) hx) rfl ?_
      obtain rfl := inj hD
      exact ax_Wp.ret rfl ⟨rfl, rfl⟩
    · refine ax_Wp.go (f' := (27, [some (.ref 130), some (.int p0), some (.int p1), some (.int p2), some (.int p3), none], [.int p1, .int p0])) 2 rfl ?_
      refine ax_Wp.brD hD rfl (fun _ hD => ?_) (fun _ hD => ?_)
      · refine ax_Wp.go (f' := (52, [some (.ref 130), some (.int p0), some (.int p1), some (.int p2), some (.int p3), none], [.int (nI 2), .ref 130])) 2 rfl ?_
        refine bnd hD (fun r6 hx hD => ?_)
        refine ax_Wp.callE (f' := (55, [some (.ref 130), some (.int p0), some (.int p1), some (.int p2), some (.int p3), none], [])) rfl rfl (w_143 (d := d + 4) hx) rfl ?_
        obtain rfl := inj hD
        exact ax_Wp.ret rfl ⟨rfl, rfl⟩
      · refine ax_Wp.go (f' := (33, [some (.ref 130), some (.int p0), some (.int p1), some (.int p2), some (.int p3), none], [.int (nI 5), .int (nI 1), .int p2])) 3 rfl ?_
        refine bnd hD (fun x7 hx hD => ?_)
        refine ax_Wp.callE (f' := (36, [some (.ref 130), some (.int p0), some (.int p1), some (.int p2), some (.int p3), none], [])) rfl rfl (w_144 (d := d + 4) hx) rfl ?_
        refine ax_Wp.brD hD rfl (fun _ hD => ?_) (fun _ hD => ?_)
        · refine ax_Wp.go (f' := (52, [some (.ref 130), some (.int p0), some (.int p1), some (.int p2), some (.int p3), none], [.int (nI 2), .ref 130])) 2 rfl ?_
          refine bnd hD (fun r8 hx hD => ?_)
          refine ax_Wp.callE (f' := (55, [some (.ref 130), some (.int p0), some (.int p1), some (.int p2), some (.int p3), none], [])) rfl rfl (w_143 (d := d + 4) hx) rfl ?_
          obtain rfl := inj hD
          exact ax_Wp.ret rfl ⟨rfl, rfl⟩
        · refine ax_Wp.go (f' := (44, [some (.ref 130), some (.int p0), some (.int p1), some (.int p2), some (.int p3), none], [.int (nI 9), .int (nI 1), .int p3])) 3 rfl ?_
          refine bnd hD (fun x9 hx hD => ?_)
          refine ax_Wp.callE (f' := (47, [some (.ref 130), some (.int p0), some (.int p1), some (.int p2), some (.int p3), none], [])) rfl rfl (w_144 (d := d + 4) hx) rfl ?_
          refine ax_Wp.brD hD rfl (fun _ hD => ?_) (fun _ hD => ?_)
          · refine ax_Wp.go (f' := (52, [some (.ref 130), some (.int p0), some (.int p1), some (.int p2), some (.int p3), none], [.int (nI 2), .ref 130])) 2 rfl ?_
            refine bnd hD (fun r10 hx hD => ?_)
            refine ax_Wp.callE (f' := (55, [some (.ref 130), some (.int p0), some (.int p1), some (.int p2), some (.int p3), none], [])) rfl rfl (w_143 (d := d + 4) hx) rfl ?_
            obtain rfl := inj hD
            exact ax_Wp.ret rfl ⟨rfl, rfl⟩
          · refine ax_Wp.go (f' := (65, [some (.ref 130), some (.int p0), some (.int p1), some (.int p2), some (.int p3), none], [.int (nI 8), .int (rI m1 131 117)])) 5 rfl ?_
            refine ax_Wp.brD hD rfl (fun _ hD => ?_) (fun _ hD => ?_)
            · refine ax_Wp.go (f' := (70, [some (.ref 130), some (.int p0), some (.int p1), some (.int p2), some (.int p3), none], [.int (nI 3), .ref 130])) 2 rfl ?_
              refine bnd hD (fun r11 hx hD => ?_)
              refine ax_Wp.callE (f' := (73, [some (.ref 130), some (.int p0), some (.int p1), some (.int p2), some (.int p3), none], [])) rfl rfl (w_143 (d := d + 4) hx) rfl ?_
              obtain rfl := inj hD
              exact ax_Wp.ret rfl ⟨rfl, rfl⟩
            · refine ax_Wp.go (f' := (75, [some (.ref 130), some (.int p0), some (.int p1), some (.int p2), some (.int p3), none], [.ref 130])) 1 rfl ?_
              refine bnd hD (fun r12 hx hD => ?_)
              refine ax_Wp.callE (f' := (78, [some (.ref 130), some (.int p0), some (.int p1), some (.int p2), some (.int p3), none], [])) rfl rfl (w_149 (d := d + 4) hx) rfl ?_
              refine ax_Wp.go (f' := (97, [some (.ref 130), some (.int p0), some (.int p1), some (.int p2), some (.int p3), some (.int (rI r12 131 117))], [.int ((rI r12 131 117) + (nI 1)), .int (nI 117), .ref 131])) 12 rfl ?_
              refine ax_Wp.wrI hD rfl rfl (fun _ => rfl) (fun m13 hD => ?_)
              refine ax_Wp.go (f' := (103, [some (.ref 130), some (.int p0), some (.int p1), some (.int p2), some (.int p3), some (.int (rI r12 131 117))], [.int p0, .int (nI 0), .int (rI r12 131 117), .ref 130])) 4 rfl ?_
              refine bnd hD (fun r14 hx hD => ?_)
              refine ax_Wp.callE (f' := (106, [some (.ref 130), some (.int p0), some (.int p1), some (.int p2), some (.int p3), some (.int (rI r12 131 117))], [])) rfl rfl (w_153 (d := d + 4) hx) rfl ?_
              refine ax_Wp.go (f' := (111, [some (.ref 130), some (.int p0), some (.int p1), some (.int p2), some (.int p3), some (.int (rI r12 131 117))], [.int p1, .int (nI 1), .int (rI r12 131 117), .ref 130])) 4 rfl ?_
              refine bnd hD (fun r15 hx hD => ?_)
              refine ax_Wp.callE (f' := (114, [some (.ref 130), some (.int p0), some (.int p1), some (.int p2), some (.int p3), some (.int (rI r12 131 117))], [])) rfl rfl (w_153 (d := d + 4) hx) rfl ?_
              refine ax_Wp.go (f' := (119, [some (.ref 130), some (.int p0), some (.int p1), some (.int p2), some (.int p3), some (.int (rI r12 131 117))], [.int p2, .int (nI 2), .int (rI r12 131 117), .ref 130])) 4 rfl ?_
              refine bnd hD (fun r16 hx hD => ?_)
              refine ax_Wp.callE (f' := (122, [some (.ref 130), some (.int p0), some (.int p1), some (.int p2), some (.int p3), some (.int (rI r12 131 117))], [])) rfl rfl (w_153 (d := d + 4) hx) rfl ?_
              refine ax_Wp.go (f' := (128, [some (.ref 130), some (.int p0), some (.int p1), some (.int p2), some (.int p3), some (.int (rI r12 131 117))], [.int p3, .int (nI 3), .int (rI r12 131 117), .ref 130])) 4 rfl ?_
              refine bnd hD (fun r17 hx hD => ?_)
              refine ax_Wp.callE (f' := (131, [some (.ref 130), some (.int p0), some (.int p1), some (.int p2), some (.int p3), some (.int (rI r12 131 117))], [])) rfl rfl (w_153 (d := d + 4) hx) rfl ?_
              refine ax_Wp.go (f' := (136, [some (.ref 130), some (.int p0), some (.int p1), some (.int p2), some (.int p3), some (.int (rI r12 131 117))], [.int (nI 0), .int (nI 4), .int (rI r12 131 117), .ref 130])) 4 rfl ?_
              refine bnd hD (fun r18 hx hD => ?_)
              refine ax_Wp.callE (f' := (139, [some (.ref 130), some (.int p0), some (.int p1), some (.int p2), some (.int p3), some (.int (rI r12 131 117))], [])) rfl rfl (w_153 (d := d + 4) hx) rfl ?_
              refine ax_Wp.go (f' := (144, [some (.ref 130), some (.int p0), some (.int p1), some (.int p2), some (.int p3), some (.int (rI r12 131 117))], [.int (-1), .int (nI 5), .int (rI r12 131 117), .ref 130])) 4 rfl ?_
              refine bnd hD (fun r19 hx hD => ?_)
              refine ax_Wp.callE (f' := (147, [some (.ref 130), some (.int p0), some (.int p1), some (.int p2), some (.int p3), some (.int (rI r12 131 117))], [])) rfl rfl (w_153 (d := d + 4) hx) rfl ?_
              refine ax_Wp.go (f' := (148, [some (.ref 130), some (.int p0), some (.int p1), some (.int p2), some (.int p3), some (.int (rI r12 131 117))], [.ref 130])) 1 rfl ?_
              refine bnd hD (fun r20 hx hD => ?_)
              refine ax_Wp.callE (f' := (151, [some (.ref 130), some (.int p0), some (.int p1), some (.int p2), some (.int p3), some (.int (rI r12 131 117))], [])) rfl rfl (w_165 (d := d + 0) hx) rfl ?_
              refine ax_Wp.go (f' := (153, [some (.ref 130), some (.int p0), some (.int p1), some (.int p2), some (.int p3), some (.int (rI r12 131 117))], [.int (rI r12 131 117)])) 1 rfl ?_
              obtain rfl := inj hD
              exact ax_Wp.ret rfl ⟨rfl, rfl⟩
