/-! WHAT METHODS DO, printed of their bytecode: 7 -/
def D32 (m : dM) (p0 : Int32) : Option (Int32) := (D29 m p0).bind fun (x1 : Int32) => Option.bind ((if x1 = (nI 0) then some (nI 0) else (gI m 14 8 p0).bind fun (x3 : Int32) => if x3 < (nI 14) then some (nI 0) else some (nI 1)) : Option (Int32)) fun (v2 : Int32) => (gB v2).bind fun (b4 : Int32) => some b4
set_option maxRecDepth 20000 in
theorem w_32 {X : Nat × (Nat → Int32)} {d : Nat} {m : dM} {p0 : Int32} {r : Int32} (hD : D32 m p0 = some r) : ax_Ev X (d + 2) 32 [.ref 10, .int p0] (stt m) (.inl (some (.int r))) (stt m) := by
  unfold D32 at hD
  show ax_Wp X (d + 1 + 1) 32 (0, [some (.ref 10), some (.int p0)], []) (stt m) _
  refine ax_Wp.go (f' := (2, [some (.ref 10), some (.int p0)], [.int p0, .ref 10])) 2 rfl ?_
  refine bnd hD (fun x1 hx hD => ?_)
  refine ax_Wp.callE (f' := (5, [some (.ref 10), some (.int p0)], [])) rfl rfl (w_29 (d := d + 0) hx) rfl ?_
  refine bnd hD (fun v2 hx hD => ?_)
  refine ax_Wp.jn (F := (24, [some (.ref 10), none], [.int v2])) (hh := stt m) ?_ (fun kkv2 => ?_)
  · refine ax_Wp.retB hD rfl (fun b4 hD => ?_)
    obtain rfl := inj hD
    exact ⟨rfl, rfl⟩
  clear hD
  have hD := hx
  clear hx
  refine ax_Wp.brD hD rfl (fun _ hD => ?_) (fun _ hD => ?_)
  · refine ax_Wp.go (f' := (24, [some (.ref 10), some (.int p0)], [.int (nI 0)])) 1 rfl ?_
    obtain rfl := inj hD
    exact ax_Wp.dead kkv2 ⟨.inl rfl, ⟨.inr ⟨rfl, trivial⟩, trivial⟩⟩
  · refine ax_Wp.go (f' := (13, [some (.ref 10), some (.int p0)], [.int p0, .ref 14])) 3 rfl ?_
    refine ax_Wp.rdI hD rfl rfl rfl (fun x3 hD => ?_)
    refine ax_Wp.go (f' := (16, [some (.ref 10), some (.int p0)], [.int (nI 14), .int x3])) 1 rfl ?_
    refine ax_Wp.brD hD rfl (fun _ hD => ?_) (fun _ hD => ?_)
    · refine ax_Wp.go (f' := (24, [some (.ref 10), some (.int p0)], [.int (nI 0)])) 1 rfl ?_
      obtain rfl := inj hD
      exact ax_Wp.dead kkv2 ⟨.inl rfl, ⟨.inr ⟨rfl, trivial⟩, trivial⟩⟩
    · refine ax_Wp.go (f' := (24, [some (.ref 10), some (.int p0)], [.int (nI 1)])) 2 rfl ?_
      obtain rfl := inj hD
      exact ax_Wp.dead kkv2 ⟨.inl rfl, ⟨.inr ⟨rfl, trivial⟩, trivial⟩⟩
def D103 (m : dM) (p0 : Int32) : Option (Int32 ⊕ Nat) := cT (D127 m p0) m (fun (x1 : Unit) => (D32 m p0).bind fun (x4 : Int32) => (gB x4).bind fun (b5 : Int32) => some (.inl b5)) (fun (j2 : Nat) (m3 : dM) => some (.inr j2))
set_option maxRecDepth 20000 in
theorem w_103 {X : Nat × (Nat → Int32)} {d : Nat} {m : dM} {p0 : Int32} {r : Int32 ⊕ Nat} (hD : D103 m p0 = some r) : ax_Ev X (d + 7) 103 [.ref 0, .int p0] (stt m) (oT (fun x => some (.int x)) r) (stt (bT m r)) := by
  unfold D103 at hD
  show ax_Wp X (d + 6 + 1) 103 (0, [some (.ref 0), some (.int p0)], []) (stt m) _
  refine ax_Wp.go (f' := (2, [some (.ref 0), some (.int p0)], [.int p0, .ref 0])) 2 rfl ?_
  refine cT.sp hD (fun x1 hx hD => ?_) (fun j2 hx hD => ?_)
  · refine ax_Wp.callE (f' := (5, [some (.ref 0), some (.int p0)], [])) rfl rfl (w_127 (d := d + 0) hx) rfl ?_
    refine ax_Wp.go (f' := (13, [some (.ref 0), some (.int p0)], [.int p0, .ref 10])) 4 rfl ?_
    refine bnd hD (fun x4 hx hD => ?_)
    refine ax_Wp.callE (f' := (16, [some (.ref 0), some (.int p0)], [])) rfl rfl (w_32 (d := d + 4) hx) rfl ?_
    refine ax_Wp.retB hD rfl (fun b5 hD => ?_)
    obtain rfl := inj hD
    exact ⟨rfl, rfl⟩
  · obtain rfl := inj hD
    exact ax_Wp.callX (f' := (5, [some (.ref 0), some (.int p0)], [])) rfl rfl (w_127 (d := d + 0) hx) rfl ⟨rfl, rfl⟩
def D271 (m : dM) (p0 : Int32) : Option (Int32 × dM) := cT (D103 m p0) m (fun (x1 : Int32) => Option.bind ((if x1 = (nI 0) then some (0 : Int64) else some (1 : Int64)) : Option (Int64)) fun (v4 : Int64) => (sL m 138 1 (nI 0) v4).bind fun (m5 : dM) => some (nI 0, m5)) (fun (j2 : Nat) (m3 : dM) => if j2 = 0 then some (nI 1, m3) else none)
set_option maxRecDepth 20000 in
theorem w_271 {X : Nat × (Nat → Int32)} {d : Nat} {m : dM} {p0 : Int32} {r : Int32 × dM} (hD : D271 m p0 = some r) : ax_Ev X (d + 8) 271 [.ref 0, .int p0, .ref 138] (stt m) (.inl (some (.int r.1))) (stt r.2) := by
  unfold D271 at hD
  show ax_Wp X (d + 7 + 1) 271 (0, [some (.ref 0), some (.int p0), some (.ref 138), none], []) (stt m) _
  refine ax_Wp.go (f' := (4, [some (.ref 0), some (.int p0), some (.ref 138), none], [.int p0, .ref 0, .int (nI 0), .ref 138])) 4 rfl ?_
  refine cT.sp hD (fun x1 hx hD => ?_) (fun j2 hx hD => ?_)
  · refine ax_Wp.callE (f' := (7, [some (.ref 0), some (.int p0), some (.ref 138), none], [.int (nI 0), .ref 138])) rfl rfl (w_103 (d := d + 0) hx) rfl ?_
    refine bnd hD (fun v4 hx hD => ?_)
    refine ax_Wp.jn (F := (15, [some (.ref 0), none, some (.ref 138), none], [.long v4, .int (nI 0), .ref 138])) (hh := stt m) ?_ (fun kkv4 => ?_)
    · refine ax_Wp.wrL hD rfl rfl (fun _ => rfl) (fun m5 hD => ?_)
      refine ax_Wp.go (f' := (23, [some (.ref 0), none, some (.ref 138), none], [.int (nI 0)])) 2 rfl ?_
      obtain rfl := inj hD
      exact ax_Wp.ret rfl ⟨rfl, rfl⟩
    clear hD
    have hD := hx
    clear hx
    refine ax_Wp.brD hD rfl (fun _ hD => ?_) (fun _ hD => ?_)
    · refine ax_Wp.go (f' := (15, [some (.ref 0), some (.int p0), some (.ref 138), none], [.long (0 : Int64), .int (nI 0), .ref 138])) 1 rfl ?_
      obtain rfl := inj hD
      exact ax_Wp.dead kkv4 ⟨.inl rfl, ⟨.inr ⟨rfl, trivial⟩, ⟨.inl rfl, ⟨.inl rfl, trivial⟩⟩⟩⟩
    · refine ax_Wp.go (f' := (15, [some (.ref 0), some (.int p0), some (.ref 138), none], [.long (1 : Int64), .int (nI 0), .ref 138])) 2 rfl ?_
      obtain rfl := inj hD
      exact ax_Wp.dead kkv4 ⟨.inl rfl, ⟨.inr ⟨rfl, trivial⟩, ⟨.inl rfl, ⟨.inl rfl, trivial⟩⟩⟩⟩
  · refine swD hD (fun e hD => ?_) (fun _ hD => ?_)
    · cases e
      refine ax_Wp.callH (f' := (7, [some (.ref 0), some (.int p0), some (.ref 138), none], [.int (nI 0), .ref 138])) (pc2 := 20) (i := 3) rfl rfl (w_103 (d := d + 0) hx) rfl rfl rfl ?_
      refine ax_Wp.go (f' := (21, [some (.ref 0), some (.int p0), some (.ref 138), none], [.int (nI 1)])) 1 rfl ?_
      obtain rfl := inj hD
      exact ax_Wp.ret rfl ⟨rfl, rfl⟩
    cases hD
def D33 (m : dM) (p0 : Int32) : Option (Int32) := (D29 m p0).bind fun (x1 : Int32) => if x1 = (nI 0) then some (-1) else (gI m 14 8 p0).bind fun (x2 : Int32) => if (nI 10) ≤ x2 then (gI m 14 8 p0).bind fun (x3 : Int32) => Option.bind ((if (nI 14) ≤ x3 then (gI m 14 8 p0).bind fun (x5 : Int32) => some (x5 - (nI 14)) else (gI m 14 8 p0).bind fun (x6 : Int32) => some (x6 - (nI 10))) : Option (Int32)) fun (v4 : Int32) => some v4 else some (-1)
set_option maxRecDepth 20000 in
theorem w_33 {X : Nat × (Nat → Int32)} {d : Nat} {m : dM} {p0 : Int32} {r : Int32} (hD : D33 m p0 = some r) : ax_Ev X (d + 2) 33 [.ref 10, .int p0] (stt m) (.inl (some (.int r))) (stt m) := by
  unfold D33 at hD
  show ax_Wp X (d + 1 + 1) 33 (0, [some (.ref 10), some (.int p0)], []) (stt m) _
  refine ax_Wp.go (f' := (2, [some (.ref 10), some (.int p0)], [.int p0, .ref 10])) 2 rfl ?_
  refine bnd hD (fun x1 hx hD => ?_)
  refine ax_Wp.callE (f' := (5, [some (.ref 10), some (.int p0)], [])) rfl rfl (w_29 (d := d + 0) hx) rfl ?_
  refine ax_Wp.brD hD rfl (fun _ hD => ?_) (fun _ hD => ?_)
  · refine ax_Wp.go (f' := (20, [some (.ref 10), some (.int p0)], [.int (-1)])) 1 rfl ?_
    obtain rfl := inj hD
    exact ax_Wp.ret rfl ⟨rfl, rfl⟩
  · refine ax_Wp.go (f' := (13, [some (.ref 10), some (.int p0)], [.int p0, .ref 14])) 3 rfl ?_
    refine ax_Wp.rdI hD rfl rfl rfl (fun x2 hD => ?_)
    refine ax_Wp.go (f' := (16, [some (.ref 10), some (.int p0)], [.int (nI 10), .int x2])) 1 rfl ?_
    refine ax_Wp.brD hD rfl (fun _ hD => ?_) (fun _ hD => ?_)
    · refine ax_Wp.go (f' := (26, [some (.ref 10), some (.int p0)], [.int p0, .ref 14])) 3 rfl ?_
      refine ax_Wp.rdI hD rfl rfl rfl (fun x3 hD => ?_)
      refine ax_Wp.go (f' := (29, [some (.ref 10), some (.int p0)], [.int (nI 14), .int x3])) 1 rfl ?_
      refine bnd hD (fun v4 hx hD => ?_)
      refine ax_Wp.jn (F := (53, [some (.ref 10), none], [.int v4])) (hh := stt m) ?_ (fun kkv4 => ?_)
      · obtain rfl := inj hD
        exact ax_Wp.ret rfl ⟨rfl, rfl⟩
      clear hD
      have hD := hx
      clear hx
      refine ax_Wp.brD hD rfl (fun _ hD => ?_) (fun _ hD => ?_)
      · refine ax_Wp.go (f' := (49, [some (.ref 10), some (.int p0)], [.int p0, .ref 14])) 3 rfl ?_
        refine ax_Wp.rdI hD rfl rfl rfl (fun x5 hD => ?_)
        refine ax_Wp.go (f' := (53, [some (.ref 10), some (.int p0)], [.int (x5 - (nI 14))])) 2 rfl ?_
        obtain rfl := inj hD
        exact ax_Wp.dead kkv4 ⟨.inl rfl, ⟨.inr ⟨rfl, trivial⟩, trivial⟩⟩
      · refine ax_Wp.go (f' := (37, [some (.ref 10), some (.int p0)], [.int p0, .ref 14])) 3 rfl ?_
        refine ax_Wp.rdI hD rfl rfl rfl (fun x6 hD => ?_)
        refine ax_Wp.go (f' := (53, [some (.ref 10), some (.int p0)], [.int (x6 - (nI 10))])) 3 rfl ?_
        obtain rfl := inj hD
        exact ax_Wp.dead kkv4 ⟨.inl rfl, ⟨.inr ⟨rfl, trivial⟩, trivial⟩⟩
    · refine ax_Wp.go (f' := (20, [some (.ref 10), some (.int p0)], [.int (-1)])) 1 rfl ?_
      obtain rfl := inj hD
      exact ax_Wp.ret rfl ⟨rfl, rfl⟩
def D104 (m : dM) (p0 : Int32) : Option (Int32 ⊕ Nat) := cT (D127 m p0) m (fun (x1 : Unit) => (D31 m p0).bind fun (x4 : Int32) => if x4 = (nI 0) then (D33 m p0).bind fun (x5 : Int32) => some (.inl x5) else some (.inr 2)) (fun (j2 : Nat) (m3 : dM) => some (.inr j2))
set_option maxRecDepth 20000 in
theorem w_104 {X : Nat × (Nat → Int32)} {d : Nat} {m : dM} {p0 : Int32} {r : Int32 ⊕ Nat} (hD : D104 m p0 = some r) : ax_Ev X (d + 7) 104 [.ref 0, .int p0] (stt m) (oT (fun x => some (.int x)) r) (stt (bT m r)) := by
  unfold D104 at hD
  show ax_Wp X (d + 6 + 1) 104 (0, [some (.ref 0), some (.int p0)], []) (stt m) _
  refine ax_Wp.go (f' := (2, [some (.ref 0), some (.int p0)], [.int p0, .ref 0])) 2 rfl ?_
  refine cT.sp hD (fun x1 hx hD => ?_) (fun j2 hx hD => ?_)
  · refine ax_Wp.callE (f' := (5, [some (.ref 0), some (.int p0)], [])) rfl rfl (w_127 (d := d + 0) hx) rfl ?_
    refine ax_Wp.go (f' := (13, [some (.ref 0), some (.int p0)], [.int p0, .ref 10])) 4 rfl ?_
    refine bnd hD (fun x4 hx hD => ?_)
    refine ax_Wp.callE (f' := (16, [some (.ref 0), some (.int p0)], [])) rfl rfl (w_31 (d := d + 4) hx) rfl ?_
    refine ax_Wp.brD hD rfl (fun _ hD => ?_) (fun _ hD => ?_)
    · refine ax_Wp.go (f' := (37, [some (.ref 0), some (.int p0)], [.int p0, .ref 10])) 4 rfl ?_
      refine bnd hD (fun x5 hx hD => ?_)
      refine ax_Wp.callE (f' := (40, [some (.ref 0), some (.int p0)], [])) rfl rfl (w_33 (d := d + 4) hx) rfl ?_
      obtain rfl := inj hD
      exact ax_Wp.ret rfl ⟨rfl, rfl⟩
    · obtain rfl := inj hD
      exact ax_Wp.thr rfl (ax_six _ rfl) ⟨rfl, rfl⟩
  · obtain rfl := inj hD
    exact ax_Wp.callX (f' := (5, [some (.ref 0), some (.int p0)], [])) rfl rfl (w_127 (d := d + 0) hx) rfl ⟨rfl, rfl⟩
def D272 (m : dM) (p0 : Int32) : Option (Int32 × dM) := cT (D104 m p0) m (fun (x1 : Int32) => (sL m 138 1 (nI 0) x1.toInt64).bind fun (m4 : dM) => some (nI 0, m4)) (fun (j2 : Nat) (m3 : dM) => if j2 = 0 then some (nI 1, m3) else if j2 = 2 then some (nI 2, m3) else none)
set_option maxRecDepth 20000 in
theorem w_272 {X : Nat × (Nat → Int32)} {d : Nat} {m : dM} {p0 : Int32} {r : Int32 × dM} (hD : D272 m p0 = some r) : ax_Ev X (d + 8) 272 [.ref 0, .int p0, .ref 138] (stt m) (.inl (some (.int r.1))) (stt r.2) := by
  unfold D272 at hD
  show ax_Wp X (d + 7 + 1) 272 (0, [some (.ref 0), some (.int p0), some (.ref 138), none], []) (stt m) _
  refine ax_Wp.go (f' := (4, [some (.ref 0), some (.int p0), some (.ref 138), none], [.int p0, .ref 0, .int (nI 0), .ref 138])) 4 rfl ?_
  refine cT.sp hD (fun x1 hx hD => ?_) (fun j2 hx hD => ?_)
  · refine ax_Wp.callE (f' := (7, [some (.ref 0), some (.int p0), some (.ref 138), none], [.int (nI 0), .ref 138])) rfl rfl (w_104 (d := d + 0) hx) rfl ?_
    refine ax_Wp.go (f' := (8, [some (.ref 0), some (.int p0), some (.ref 138), none], [.long x1.toInt64, .int (nI 0), .ref 138])) 1 rfl ?_
    refine ax_Wp.wrL hD rfl rfl (fun _ => rfl) (fun m4 hD => ?_)
    refine ax_Wp.go (f' := (19, [some (.ref 0), some (.int p0), some (.ref 138), none], [.int (nI 0)])) 2 rfl ?_
    obtain rfl := inj hD
    exact ax_Wp.ret rfl ⟨rfl, rfl⟩
  · refine swD hD (fun e hD => ?_) (fun _ hD => ?_)
    · cases e
      refine ax_Wp.callH (f' := (7, [some (.ref 0), some (.int p0), some (.ref 138), none], [.int (nI 0), .ref 138])) (pc2 := 13) (i := 3) rfl rfl (w_104 (d := d + 0) hx) rfl rfl rfl ?_
      refine ax_Wp.go (f' := (14, [some (.ref 0), some (.int p0), some (.ref 138), none], [.int (nI 1)])) 1 rfl ?_
      obtain rfl := inj hD
      exact ax_Wp.ret rfl ⟨rfl, rfl⟩
    refine swD hD (fun e hD => ?_) (fun _ hD => ?_)
    · cases e
      refine ax_Wp.callH (f' := (7, [some (.ref 0), some (.int p0), some (.ref 138), none], [.int (nI 0), .ref 138])) (pc2 := 16) (i := 3) rfl rfl (w_104 (d := d + 0) hx) rfl rfl rfl ?_
      refine ax_Wp.go (f' := (17, [some (.ref 0), some (.int p0), some (.ref 138), none], [.int (nI 2)])) 1 rfl ?_
      obtain rfl := inj hD
      exact ax_Wp.ret rfl ⟨rfl, rfl⟩
    cases hD
def D46 (m : dM) (p0 : Int32) : Option (Int32) := (D29 m p0).bind fun (x1 : Int32) => if x1 = (nI 0) then some (-1) else (D32 m p0).bind fun (x2 : Int32) => if x2 = (nI 0) then (D33 m p0).bind fun (x3 : Int32) => (D128 x3).bind fun (x4 : Int32) => if x4 = (nI 0) then (gI m 14 8 p0).bind fun (x5 : Int32) => some x5 else (gI m 6 4 x3).bind fun (x6 : Int32) => some x6 else (gI m 11 8 p0).bind fun (x7 : Int32) => some x7
set_option maxRecDepth 20000 in
theorem w_46 {X : Nat × (Nat → Int32)} {d : Nat} {m : dM} {p0 : Int32} {r : Int32} (hD : D46 m p0 = some r) : ax_Ev X (d + 3) 46 [.ref 1, .int p0] (stt m) (.inl (some (.int r))) (stt m) := by
  unfold D46 at hD
  show ax_Wp X (d + 2 + 1) 46 (0, [some (.ref 1), some (.int p0), none], []) (stt m) _
  refine ax_Wp.go (f' := (5, [some (.ref 1), some (.int p0), none], [.int p0, .ref 10])) 3 rfl ?_
  refine bnd hD (fun x1 hx hD => ?_)
  refine ax_Wp.callE (f' := (8, [some (.ref 1), some (.int p0), none], [])) rfl rfl (w_29 (d := d + 1) hx) rfl ?_
  refine ax_Wp.brD hD rfl (fun _ hD => ?_) (fun _ hD => ?_)
  · refine ax_Wp.go (f' := (12, [some (.ref 1), some (.int p0), none], [.int (-1)])) 1 rfl ?_
    obtain rfl := inj hD
    exact ax_Wp.ret rfl ⟨rfl, rfl⟩
  · refine ax_Wp.go (f' := (18, [some (.ref 1), some (.int p0), none], [.int p0, .ref 10])) 3 rfl ?_
    refine bnd hD (fun x2 hx hD => ?_)
    refine ax_Wp.callE (f' := (21, [some (.ref 1), some (.int p0), none], [])) rfl rfl (w_32 (d := d + 0) hx) rfl ?_
    refine ax_Wp.brD hD rfl (fun _ hD => ?_) (fun _ hD => ?_)
    · refine ax_Wp.go (f' := (39, [some (.ref 1), some (.int p0), none], [.int p0, .ref 10])) 3 rfl ?_
      refine bnd hD (fun x3 hx hD => ?_)
      refine ax_Wp.callE (f' := (42, [some (.ref 1), some (.int p0), none], [])) rfl rfl (w_33 (d := d + 0) hx) rfl ?_
      refine ax_Wp.go (f' := (44, [some (.ref 1), some (.int p0), some (.int x3)], [.int x3])) 2 rfl ?_
      refine bnd hD (fun x4 hx hD => ?_)
      refine ax_Wp.callE (f' := (47, [some (.ref 1), some (.int p0), some (.int x3)], [])) rfl rfl (w_128 (d := d + 1) hx) rfl ?_
      refine ax_Wp.brD hD rfl (fun _ hD => ?_) (fun _ hD => ?_)
      · refine ax_Wp.go (f' := (68, [some (.ref 1), some (.int p0), some (.int x3)], [.int p0, .ref 14])) 4 rfl ?_
        refine ax_Wp.rdI hD rfl rfl rfl (fun x5 hD => ?_)
        obtain rfl := inj hD
        exact ax_Wp.ret rfl ⟨rfl, rfl⟩
      · refine ax_Wp.go (f' := (58, [some (.ref 1), some (.int p0), some (.int x3)], [.int x3, .ref 6])) 4 rfl ?_
        refine ax_Wp.rdI hD rfl rfl rfl (fun x6 hD => ?_)
        obtain rfl := inj hD
        exact ax_Wp.ret rfl ⟨rfl, rfl⟩
    · refine ax_Wp.go (f' := (32, [some (.ref 1), some (.int p0), none], [.int p0, .ref 11])) 4 rfl ?_
      refine ax_Wp.rdI hD rfl rfl rfl (fun x7 hD => ?_)
      obtain rfl := inj hD
      exact ax_Wp.ret rfl ⟨rfl, rfl⟩
def D105 (m : dM) (p0 : Int32) : Option (Int32 ⊕ Nat) := cT (D127 m p0) m (fun (x1 : Unit) => (D46 m p0).bind fun (x4 : Int32) => some (.inl x4)) (fun (j2 : Nat) (m3 : dM) => some (.inr j2))
set_option maxRecDepth 20000 in
theorem w_105 {X : Nat × (Nat → Int32)} {d : Nat} {m : dM} {p0 : Int32} {r : Int32 ⊕ Nat} (hD : D105 m p0 = some r) : ax_Ev X (d + 7) 105 [.ref 0, .int p0] (stt m) (oT (fun x => some (.int x)) r) (stt (bT m r)) := by
  unfold D105 at hD
  show ax_Wp X (d + 6 + 1) 105 (0, [some (.ref 0), some (.int p0)], []) (stt m) _
  refine ax_Wp.go (f' := (2, [some (.ref 0), some (.int p0)], [.int p0, .ref 0])) 2 rfl ?_
  refine cT.sp hD (fun x1 hx hD => ?_) (fun j2 hx hD => ?_)
  · refine ax_Wp.callE (f' := (5, [some (.ref 0), some (.int p0)], [])) rfl rfl (w_127 (d := d + 0) hx) rfl ?_
    refine ax_Wp.go (f' := (10, [some (.ref 0), some (.int p0)], [.int p0, .ref 1])) 3 rfl ?_
    refine bnd hD (fun x4 hx hD => ?_)
    refine ax_Wp.callE (f' := (13, [some (.ref 0), some (.int p0)], [])) rfl rfl (w_46 (d := d + 3) hx) rfl ?_
    obtain rfl := inj hD
    exact ax_Wp.ret rfl ⟨rfl, rfl⟩
  · obtain rfl := inj hD
    exact ax_Wp.callX (f' := (5, [some (.ref 0), some (.int p0)], [])) rfl rfl (w_127 (d := d + 0) hx) rfl ⟨rfl, rfl⟩
def D273 (m : dM) (p0 : Int32) : Option (Int32 × dM) := cT (D105 m p0) m (fun (x1 : Int32) => (sL m 138 1 (nI 0) x1.toInt64).bind fun (m4 : dM) => some (nI 0, m4)) (fun (j2 : Nat) (m3 : dM) => if j2 = 0 then some (nI 1, m3) else none)
set_option maxRecDepth 20000 in
theorem w_273 {X : Nat × (Nat → Int32)} {d : Nat} {m : dM} {p0 : Int32} {r : Int32 × dM} (hD : D273 m p0 = some r) : ax_Ev X (d + 8) 273 [.ref 0, .int p0, .ref 138] (stt m) (.inl (some (.int r.1))) (stt r.2) := by
  unfold D273 at hD
  show ax_Wp X (d + 7 + 1) 273 (0, [some (.ref 0), some (.int p0), some (.ref 138), none], []) (stt m) _
  refine ax_Wp.go (f' := (4, [some (.ref 0), some (.int p0), some (.ref 138), none], [.int p0, .ref 0, .int (nI 0), .ref 138])) 4 rfl ?_
  refine cT.sp hD (fun x1 hx hD => ?_) (fun j2 hx hD => ?_)
  · refine ax_Wp.callE (f' := (7, [some (.ref 0), some (.int p0), some (.ref 138), none], [.int (nI 0), .ref 138])) rfl rfl (w_105 (d := d + 0) hx) rfl ?_
    refine ax_Wp.go (f' := (8, [some (.ref 0), some (.int p0), some (.ref 138), none], [.long x1.toInt64, .int (nI 0), .ref 138])) 1 rfl ?_
    refine ax_Wp.wrL hD rfl rfl (fun _ => rfl) (fun m4 hD => ?_)
    refine ax_Wp.go (f' := (16, [some (.ref 0), some (.int p0), some (.ref 138), none], [.int (nI 0)])) 2 rfl ?_
    obtain rfl := inj hD
    exact ax_Wp.ret rfl ⟨rfl, rfl⟩
  · refine swD hD (fun e hD => ?_) (fun _ hD => ?_)
    · cases e
      refine ax_Wp.callH (f' := (7, [some (.ref 0), some (.int p0), some (.ref 138), none], [.int (nI 0), .ref 138])) (pc2 := 13) (i := 3) rfl rfl (w_105 (d := d + 0) hx) rfl rfl rfl ?_
      refine ax_Wp.go (f' := (14, [some (.ref 0), some (.int p0), some (.ref 138), none], [.int (nI 1)])) 1 rfl ?_
      obtain rfl := inj hD
      exact ax_Wp.ret rfl ⟨rfl, rfl⟩
    cases hD
def D125 (p0 : Int32) : Option (Unit ⊕ Nat) := if p0 < (nI 0) then some (.inr 0) else if p0 < (nI 2) then some (.inl ()) else some (.inr 0)
set_option maxRecDepth 20000 in
theorem w_125 {X : Nat × (Nat → Int32)} {d : Nat} {m : dM} {p0 : Int32} {r : Unit ⊕ Nat} (hD : D125 p0 = some r) : ax_Ev X (d + 6) 125 [.int p0] (stt m) (oT (fun (_ : Unit) => none) r) (stt (bT m r)) := by
  unfold D125 at hD
  show ax_Wp X (d + 5 + 1) 125 (0, [some (.int p0)], []) (stt m) _
  refine ax_Wp.go (f' := (1, [some (.int p0)], [.int p0])) 1 rfl ?_
  refine ax_Wp.brD hD rfl (fun _ hD => ?_) (fun _ hD => ?_)
  · obtain rfl := inj hD
    exact ax_Wp.thr rfl (ax_six _ rfl) ⟨rfl, rfl⟩
  · refine ax_Wp.go (f' := (6, [some (.int p0)], [.int (nI 2), .int p0])) 2 rfl ?_
    refine ax_Wp.brD hD rfl (fun _ hD => ?_) (fun _ hD => ?_)
    · obtain rfl := inj hD
      exact ax_Wp.ret rfl ⟨rfl, rfl⟩
    · obtain rfl := inj hD
      exact ax_Wp.thr rfl (ax_six _ rfl) ⟨rfl, rfl⟩
def D106 (m : dM) (p0 : Int32) : Option (Int32 ⊕ Nat) := cT (D125 p0) m (fun (x1 : Unit) => (gI m 17 2 p0).bind fun (x4 : Int32) => some (.inl x4)) (fun (j2 : Nat) (m3 : dM) => some (.inr j2))
set_option maxRecDepth 20000 in
theorem w_106 {X : Nat × (Nat → Int32)} {d : Nat} {m : dM} {p0 : Int32} {r : Int32 ⊕ Nat} (hD : D106 m p0 = some r) : ax_Ev X (d + 7) 106 [.ref 0, .int p0] (stt m) (oT (fun x => some (.int x)) r) (stt (bT m r)) := by
  unfold D106 at hD
  show ax_Wp X (d + 6 + 1) 106 (0, [some (.ref 0), some (.int p0)], []) (stt m) _
  refine ax_Wp.go (f' := (1, [some (.ref 0), some (.int p0)], [.int p0])) 1 rfl ?_
  refine cT.sp hD (fun x1 hx hD => ?_) (fun j2 hx hD => ?_)
  · refine ax_Wp.callE (f' := (4, [some (.ref 0), some (.int p0)], [])) rfl rfl (w_125 (d := d + 0) hx) rfl ?_
    refine ax_Wp.go (f' := (12, [some (.ref 0), some (.int p0)], [.int p0, .ref 17])) 4 rfl ?_
    refine ax_Wp.rdI hD rfl rfl rfl (fun x4 hD => ?_)
    obtain rfl := inj hD
    exact ax_Wp.ret rfl ⟨rfl, rfl⟩
  · obtain rfl := inj hD
    exact ax_Wp.callX (f' := (4, [some (.ref 0), some (.int p0)], [])) rfl rfl (w_125 (d := d + 0) hx) rfl ⟨rfl, rfl⟩
def D274 (m : dM) (p0 : Int32) : Option (Int32 × dM) := cT (D106 m p0) m (fun (x1 : Int32) => (sL m 138 1 (nI 0) x1.toInt64).bind fun (m4 : dM) => some (nI 0, m4)) (fun (j2 : Nat) (m3 : dM) => if j2 = 0 then some (nI 1, m3) else none)
set_option maxRecDepth 20000 in
theorem w_274 {X : Nat × (Nat → Int32)} {d : Nat} {m : dM} {p0 : Int32} {r : Int32 × dM} (hD : D274 m p0 = some r) : ax_Ev X (d + 8) 274 [.ref 0, .int p0, .ref 138] (stt m) (.inl (some (.int r.1))) (stt r.2) := by
  unfold D274 at hD
  show ax_Wp X (d + 7 + 1) 274 (0, [some (.ref 0), some (.int p0), some (.ref 138), none], []) (stt m) _
  refine ax_Wp.go (f' := (4, [some (.ref 0), some (.int p0), some (.ref 138), none], [.int p0, .ref 0, .int (nI 0), .ref 138])) 4 rfl ?_
  refine cT.sp hD (fun x1 hx hD => ?_) (fun j2 hx hD => ?_)
  · refine ax_Wp.callE (f' := (7, [some (.ref 0), some (.int p0), some (.ref 138), none], [.int (nI 0), .ref 138])) rfl rfl (w_106 (d := d + 0) hx) rfl ?_
    refine ax_Wp.go (f' := (8, [some (.ref 0), some (.int p0), some (.ref 138), none], [.long x1.toInt64, .int (nI 0), .ref 138])) 1 rfl ?_
    refine ax_Wp.wrL hD rfl rfl (fun _ => rfl) (fun m4 hD => ?_)
    refine ax_Wp.go (f' := (16, [some (.ref 0), some (.int p0), some (.ref 138), none], [.int (nI 0)])) 2 rfl ?_
    obtain rfl := inj hD
    exact ax_Wp.ret rfl ⟨rfl, rfl⟩
  · refine swD hD (fun e hD => ?_) (fun _ hD => ?_)
    · cases e
      refine ax_Wp.callH (f' := (7, [some (.ref 0), some (.int p0), some (.ref 138), none], [.int (nI 0), .ref 138])) (pc2 := 13) (i := 3) rfl rfl (w_106 (d := d + 0) hx) rfl rfl rfl ?_
      refine ax_Wp.go (f' := (14, [some (.ref 0), some (.int p0), some (.ref 138), none], [.int (nI 1)])) 1 rfl ?_
      obtain rfl := inj hD
      exact ax_Wp.ret rfl ⟨rfl, rfl⟩
    cases hD
def D36 (m : dM) (p0 : Int32) : Option (Int32) := Option.bind (lp (β := Int32) 3000 (fun (s1 : Int32 × Int32) => if (rI m 10 4) ≤ s1.2 then some (.inr s1.1) else (gI m 14 8 s1.2).bind fun (x3 : Int32) => Option.bind ((if x3 < (nI 14) then some s1.1 else (gI m 14 8 s1.2).bind fun (x5 : Int32) => (D130 (x5 - (nI 14))).bind fun (x6 : Int32) => if x6 = p0 then (gI m 13 8 s1.2).bind fun (x7 : Int32) => some (s1.1 + x7) else some s1.1) : Option (Int32)) fun (v4 : Int32) => some (.inl (v4, s1.2 + (nI 1)))) (nI 0, nI 0)) fun (v2 : Int32) => some v2
set_option maxRecDepth 20000 in
theorem w_36 {X : Nat × (Nat → Int32)} {d : Nat} {m : dM} {p0 : Int32} {r : Int32} (hD : D36 m p0 = some r) : ax_Ev X (d + 2) 36 [.ref 10, .int p0] (stt m) (.inl (some (.int r))) (stt m) := by
  unfold D36 at hD
  show ax_Wp X (d + 1 + 1) 36 (0, [some (.ref 10), some (.int p0), none, none], []) (stt m) _
  refine ax_Wp.go (f' := (4, [some (.ref 10), some (.int p0), some (.int (nI 0)), some (.int (nI 0))], [])) 4 rfl ?_
  refine bnd hD (fun v2 hx hD => ?_)
  refine ax_Wp.jn (F := (54, [some (.ref 10), none, some (.int v2), none], [])) (hh := stt m) ?_ (fun kkv2 => ?_)
  · refine ax_Wp.go (f' := (55, [some (.ref 10), none, some (.int v2), none], [.int v2])) 1 rfl ?_
    obtain rfl := inj hD
    exact ax_Wp.ret rfl ⟨rfl, rfl⟩
  clear hD
  refine ax_Wp.lpD (fun (s1 : Int32 × Int32) => ((4, [some (.ref 10), some (.int p0), some (.int s1.1), some (.int s1.2)], []), stt m)) ?_ hx
  clear hx
  intro s1 v hD ks1
  refine ax_Wp.go (f' := (9, [some (.ref 10), some (.int p0), some (.int s1.1), some (.int s1.2)], [.int (rI m 10 4), .int s1.2])) 3 rfl ?_
  refine ax_Wp.brD hD rfl (fun _ hD => ?_) (fun _ hD => ?_)
  · obtain rfl := inj hD
    obtain rfl := ks1.o
    exact ax_Wp.dead kkv2 ⟨.inl rfl, ⟨.inr ⟨rfl, trivial⟩, ⟨.inl rfl, ⟨.inr ⟨rfl, trivial⟩, trivial⟩⟩⟩⟩
  · refine ax_Wp.go (f' := (17, [some (.ref 10), some (.int p0), some (.int s1.1), some (.int s1.2)], [.int s1.2, .ref 14])) 3 rfl ?_
    refine ax_Wp.rdI hD rfl rfl rfl (fun x3 hD => ?_)
    refine ax_Wp.go (f' := (20, [some (.ref 10), some (.int p0), some (.int s1.1), some (.int s1.2)], [.int (nI 14), .int x3])) 1 rfl ?_
    refine bnd hD (fun v4 hx hD => ?_)
    refine ax_Wp.jn (F := (48, [some (.ref 10), some (.int p0), some (.int v4), some (.int s1.2)], [])) (hh := stt m) ?_ (fun kkv4 => ?_)
    · refine ax_Wp.go (f' := (4, [some (.ref 10), some (.int p0), some (.int v4), some (.int (s1.2 + (nI 1)))], [])) 2 rfl ?_
      obtain rfl := inj hD
      exact ks1.i
    clear hD
    have hD := hx
    clear hx
    refine ax_Wp.brD hD rfl (fun _ hD => ?_) (fun _ hD => ?_)
    · obtain rfl := inj hD
      exact kkv4
    · refine ax_Wp.go (f' := (28, [some (.ref 10), some (.int p0), some (.int s1.1), some (.int s1.2)], [.int s1.2, .ref 14])) 3 rfl ?_
      refine ax_Wp.rdI hD rfl rfl rfl (fun x5 hD => ?_)
      refine ax_Wp.go (f' := (32, [some (.ref 10), some (.int p0), some (.int s1.1), some (.int s1.2)], [.int (x5 - (nI 14))])) 2 rfl ?_
      refine bnd hD (fun x6 hx hD => ?_)
      refine ax_Wp.callE (f' := (35, [some (.ref 10), some (.int p0), some (.int s1.1), some (.int s1.2)], [])) rfl rfl (w_130 (d := d + 0) hx) rfl ?_
      refine ax_Wp.go (f' := (36, [some (.ref 10), some (.int p0), some (.int s1.1), some (.int s1.2)], [.int p0, .int x6])) 1 rfl ?_
      refine ax_Wp.brD hD rfl (fun _ hD => ?_) (fun _ hD => ?_)
      · refine ax_Wp.go (f' := (45, [some (.ref 10), some (.int p0), some (.int s1.1), some (.int s1.2)], [.int s1.2, .ref 13, .int s1.1])) 4 rfl ?_
        refine ax_Wp.rdI hD rfl rfl rfl (fun x7 hD => ?_)
        refine ax_Wp.go (f' := (48, [some (.ref 10), some (.int p0), some (.int (s1.1 + x7)), some (.int s1.2)], [])) 2 rfl ?_
        obtain rfl := inj hD
        exact kkv4
      · obtain rfl := inj hD
        exact kkv4
def D107 (m : dM) (p0 : Int32) : Option (Int32 ⊕ Nat) := cT (D125 p0) m (fun (x1 : Unit) => (D36 m p0).bind fun (x4 : Int32) => some (.inl x4)) (fun (j2 : Nat) (m3 : dM) => some (.inr j2))
set_option maxRecDepth 20000 in
theorem w_107 {X : Nat × (Nat → Int32)} {d : Nat} {m : dM} {p0 : Int32} {r : Int32 ⊕ Nat} (hD : D107 m p0 = some r) : ax_Ev X (d + 7) 107 [.ref 0, .int p0] (stt m) (oT (fun x => some (.int x)) r) (stt (bT m r)) := by
  unfold D107 at hD
  show ax_Wp X (d + 6 + 1) 107 (0, [some (.ref 0), some (.int p0)], []) (stt m) _
  refine ax_Wp.go (f' := (1, [some (.ref 0), some (.int p0)], [.int p0])) 1 rfl ?_
  refine cT.sp hD (fun x1 hx hD => ?_) (fun j2 hx hD => ?_)
  · refine ax_Wp.callE (f' := (4, [some (.ref 0), some (.int p0)], [])) rfl rfl (w_125 (d := d + 0) hx) rfl ?_
    refine ax_Wp.go (f' := (12, [some (.ref 0), some (.int p0)], [.int p0, .ref 10])) 4 rfl ?_
    refine bnd hD (fun x4 hx hD => ?_)
    refine ax_Wp.callE (f' := (15, [some (.ref 0), some (.int p0)], [])) rfl rfl (w_36 (d := d + 4) hx) rfl ?_
    obtain rfl := inj hD
    exact ax_Wp.ret rfl ⟨rfl, rfl⟩
  · obtain rfl := inj hD
    exact ax_Wp.callX (f' := (4, [some (.ref 0), some (.int p0)], [])) rfl rfl (w_125 (d := d + 0) hx) rfl ⟨rfl, rfl⟩
def D275 (m : dM) (p0 : Int32) : Option (Int32 × dM) := cT (D107 m p0) m (fun (x1 : Int32) => (sL m 138 1 (nI 0) x1.toInt64).bind fun (m4 : dM) => some (nI 0, m4)) (fun (j2 : Nat) (m3 : dM) => if j2 = 0 then some (nI 1, m3) else none)
set_option maxRecDepth 20000 in
theorem w_275 {X : Nat × (Nat → Int32)} {d : Nat} {m : dM} {p0 : Int32} {r : Int32 × dM} (hD : D275 m p0 = some r) : ax_Ev X (d + 8) 275 [.ref 0, .int p0, .ref 138] (stt m) (.inl (some (.int r.1))) (stt r.2) := by
  unfold D275 at hD
  show ax_Wp X (d + 7 + 1) 275 (0, [some (.ref 0), some (.int p0), some (.ref 138), none], []) (stt m) _
  refine ax_Wp.go (f' := (4, [some (.ref 0), some (.int p0), some (.ref 138), none], [.int p0, .ref 0, .int (nI 0), .ref 138])) 4 rfl ?_
  refine cT.sp hD (fun x1 hx hD => ?_) (fun j2 hx hD => ?_)
  · refine ax_Wp.callE (f' := (7, [some (.ref 0), some (.int p0), some (.ref 138), none], [.int (nI 0), .ref 138])) rfl rfl (w_107 (d := d + 0) hx) rfl ?_
    refine ax_Wp.go (f' := (8, [some (.ref 0), some (.int p0), some (.ref 138), none], [.long x1.toInt64, .int (nI 0), .ref 138])) 1 rfl ?_
    refine ax_Wp.wrL hD rfl rfl (fun _ => rfl) (fun m4 hD => ?_)
    refine ax_Wp.go (f' := (16, [some (.ref 0), some (.int p0), some (.ref 138), none], [.int (nI 0)])) 2 rfl ?_
    obtain rfl := inj hD
    exact ax_Wp.ret rfl ⟨rfl, rfl⟩
  · refine swD hD (fun e hD => ?_) (fun _ hD => ?_)
    · cases e
      refine ax_Wp.callH (f' := (7, [some (.ref 0), some (.int p0), some (.ref 138), none], [.int (nI 0), .ref 138])) (pc2 := 13) (i := 3) rfl rfl (w_107 (d := d + 0) hx) rfl rfl rfl ?_
      refine ax_Wp.go (f' := (14, [some (.ref 0), some (.int p0), some (.ref 138), none], [.int (nI 1)])) 1 rfl ?_
      obtain rfl := inj hD
      exact ax_Wp.ret rfl ⟨rfl, rfl⟩
    cases hD
def D65 (m : dM) (p0 : Int32) (p1 : Int32) : Option (Int32) := (D63 m p1).bind fun (x1 : Int32) => Option.bind (lp (β := Int32) 3000 (fun (s2 : Int32 × Int32) => if (rI m 2 4) ≤ s2.2 then some (.inr s2.1) else Option.bind ((if ((x1 >>> (s2.2 &&& nI 31)) &&& (nI 1)) = (nI 1) then (gI m 3 24 s2.2).bind fun (x5 : Int32) => if ((p0 >>> (x5 &&& nI 31)) &&& (nI 1)) = (nI 1) then (gI m 4 24 s2.2).bind fun (x6 : Int32) => some (s2.1 ||| ((nI 1) <<< (x6 &&& nI 31))) else some s2.1 else some s2.1) : Option (Int32)) fun (v4 : Int32) => some (.inl (v4, s2.2 + (nI 1)))) (nI 0, nI 0)) fun (v3 : Int32) => some v3
set_option maxRecDepth 20000 in
theorem w_65 {X : Nat × (Nat → Int32)} {d : Nat} {m : dM} {p0 : Int32} {p1 : Int32} {r : Int32} (hD : D65 m p0 p1 = some r) : ax_Ev X (d + 2) 65 [.ref 2, .int p0, .int p1] (stt m) (.inl (some (.int r))) (stt m) := by
  unfold D65 at hD
  show ax_Wp X (d + 1 + 1) 65 (0, [some (.ref 2), some (.int p0), some (.int p1), none, none, none], []) (stt m) _
  refine ax_Wp.go (f' := (4, [some (.ref 2), some (.int p0), some (.int p1), some (.int (nI 0)), none, none], [.int p1, .ref 2])) 4 rfl ?_
  refine bnd hD (fun x1 hx hD => ?_)
  refine ax_Wp.callE (f' := (7, [some (.ref 2), some (.int p0), some (.int p1), some (.int (nI 0)), none, none], [])) rfl rfl (w_63 (d := d + 0) hx) rfl ?_
  refine ax_Wp.go (f' := (12, [some (.ref 2), some (.int p0), some (.int p1), some (.int (nI 0)), some (.int x1), some (.int (nI 0))], [])) 3 rfl ?_
  refine bnd hD (fun v3 hx hD => ?_)
  refine ax_Wp.jn (F := (65, [some (.ref 2), none, none, some (.int v3), none, none], [])) (hh := stt m) ?_ (fun kkv3 => ?_)
  · refine ax_Wp.go (f' := (66, [some (.ref 2), none, none, some (.int v3), none, none], [.int v3])) 1 rfl ?_
    obtain rfl := inj hD
    exact ax_Wp.ret rfl ⟨rfl, rfl⟩
  clear hD
  refine ax_Wp.dead (L := [some (.ref 2), some (.int p0), none, some (.int (nI 0)), some (.int x1), some (.int (nI 0))]) ?_ ⟨.inl rfl, ⟨.inl rfl, ⟨.inr ⟨rfl, trivial⟩, ⟨.inl rfl, ⟨.inl rfl, ⟨.inl rfl, trivial⟩⟩⟩⟩⟩⟩
  refine ax_Wp.lpD (fun (s2 : Int32 × Int32) => ((12, [some (.ref 2), some (.int p0), none, some (.int s2.1), some (.int x1), some (.int s2.2)], []), stt m)) ?_ hx
  clear hx
  intro s2 v hD ks2
  refine ax_Wp.go (f' := (18, [some (.ref 2), some (.int p0), none, some (.int s2.1), some (.int x1), some (.int s2.2)], [.int (rI m 2 4), .int s2.2])) 3 rfl ?_
  refine ax_Wp.brD hD rfl (fun _ hD => ?_) (fun _ hD => ?_)
  · obtain rfl := inj hD
    obtain rfl := ks2.o
    exact ax_Wp.dead kkv3 ⟨.inl rfl, ⟨.inr ⟨rfl, trivial⟩, ⟨.inl rfl, ⟨.inl rfl, ⟨.inr ⟨rfl, trivial⟩, ⟨.inr ⟨rfl, trivial⟩, trivial⟩⟩⟩⟩⟩⟩
  · refine ax_Wp.go (f' := (29, [some (.ref 2), some (.int p0), none, some (.int s2.1), some (.int x1), some (.int s2.2)], [.int (nI 1), .int ((x1 >>> (s2.2 &&& nI 31)) &&& (nI 1))])) 6 rfl ?_
    refine bnd hD (fun v4 hx hD => ?_)
    refine ax_Wp.jn (F := (59, [some (.ref 2), some (.int p0), none, some (.int v4), some (.int x1), some (.int s2.2)], [])) (hh := stt m) ?_ (fun kkv4 => ?_)
    · refine ax_Wp.go (f' := (12, [some (.ref 2), some (.int p0), none, some (.int v4), some (.int x1), some (.int (s2.2 + (nI 1)))], [])) 2 rfl ?_
      obtain rfl := inj hD
      exact ks2.i
    clear hD
    have hD := hx
    clear hx
    refine ax_Wp.brD hD rfl (fun _ hD => ?_) (fun _ hD => ?_)
    · refine ax_Wp.go (f' := (39, [some (.ref 2), some (.int p0), none, some (.int s2.1), some (.int x1), some (.int s2.2)], [.int s2.2, .ref 3, .int p0])) 4 rfl ?_
      refine ax_Wp.rdI hD rfl rfl rfl (fun x5 hD => ?_)
      refine ax_Wp.go (f' := (44, [some (.ref 2), some (.int p0), none, some (.int s2.1), some (.int x1), some (.int s2.2)], [.int (nI 1), .int ((p0 >>> (x5 &&& nI 31)) &&& (nI 1))])) 4 rfl ?_
      refine ax_Wp.brD hD rfl (fun _ hD => ?_) (fun _ hD => ?_)
      · refine ax_Wp.go (f' := (55, [some (.ref 2), some (.int p0), none, some (.int s2.1), some (.int x1), some (.int s2.2)], [.int s2.2, .ref 4, .int (nI 1), .int s2.1])) 5 rfl ?_
        refine ax_Wp.rdI hD rfl rfl rfl (fun x6 hD => ?_)
        refine ax_Wp.go (f' := (59, [some (.ref 2), some (.int p0), none, some (.int (s2.1 ||| ((nI 1) <<< (x6 &&& nI 31)))), some (.int x1), some (.int s2.2)], [])) 3 rfl ?_
        obtain rfl := inj hD
        exact kkv4
      · obtain rfl := inj hD
        exact kkv4
    · obtain rfl := inj hD
      exact kkv4
def D66 (m : dM) (p0 : Int32) (p1 : Int32) : Option (Int32) := lp (β := Int32) 3000 (fun (s1 : Int32 × Int32) => if (nI 10) ≤ s1.2 then some (.inr s1.1) else (D65 m s1.1 p1).bind fun (x2 : Int32) => if (s1.1 ||| x2) = s1.1 then some (.inr s1.1) else some (.inl (s1.1 ||| x2, s1.2 + (nI 1)))) ((nI 1) <<< (p0 &&& nI 31), nI 0)
set_option maxRecDepth 20000 in
theorem w_66 {X : Nat × (Nat → Int32)} {d : Nat} {m : dM} {p0 : Int32} {p1 : Int32} {r : Int32} (hD : D66 m p0 p1 = some r) : ax_Ev X (d + 3) 66 [.ref 2, .int p0, .int p1] (stt m) (.inl (some (.int r))) (stt m) := by
  unfold D66 at hD
  show ax_Wp X (d + 2 + 1) 66 (0, [some (.ref 2), some (.int p0), some (.int p1), none, none, none], []) (stt m) _
  refine ax_Wp.go (f' := (7, [some (.ref 2), some (.int p0), some (.int p1), some (.int ((nI 1) <<< (p0 &&& nI 31))), some (.int (nI 0)), none], [])) 6 rfl ?_
  refine ax_Wp.dead (L := [some (.ref 2), none, some (.int p1), some (.int ((nI 1) <<< (p0 &&& nI 31))), some (.int (nI 0)), none]) ?_ ⟨.inl rfl, ⟨.inr ⟨rfl, trivial⟩, ⟨.inl rfl, ⟨.inl rfl, ⟨.inl rfl, ⟨.inl rfl, trivial⟩⟩⟩⟩⟩⟩
  refine ax_Wp.lpD (fun (s1 : Int32 × Int32) => ((7, [some (.ref 2), none, some (.int p1), some (.int s1.1), some (.int s1.2), none], []), stt m)) ?_ hD
  clear hD
  intro s1 v hD ks1
  refine ax_Wp.go (f' := (11, [some (.ref 2), none, some (.int p1), some (.int s1.1), some (.int s1.2), none], [.int (nI 10), .int s1.2])) 2 rfl ?_
  refine ax_Wp.brD hD rfl (fun _ hD => ?_) (fun _ hD => ?_)
  · refine ax_Wp.go (f' := (42, [some (.ref 2), none, some (.int p1), some (.int s1.1), some (.int s1.2), none], [.int s1.1])) 1 rfl ?_
    obtain rfl := inj hD
    obtain rfl := ks1.o
    exact ax_Wp.ret rfl ⟨rfl, rfl⟩
  · refine ax_Wp.go (f' := (18, [some (.ref 2), none, some (.int p1), some (.int s1.1), some (.int s1.2), none], [.int p1, .int s1.1, .ref 2, .int s1.1])) 4 rfl ?_
    refine bnd hD (fun x2 hx hD => ?_)
    refine ax_Wp.callE (f' := (21, [some (.ref 2), none, some (.int p1), some (.int s1.1), some (.int s1.2), none], [.int s1.1])) rfl rfl (w_65 (d := d + 0) hx) rfl ?_
    refine ax_Wp.go (f' := (27, [some (.ref 2), none, some (.int p1), some (.int s1.1), some (.int s1.2), some (.int (s1.1 ||| x2))], [.int s1.1, .int (s1.1 ||| x2)])) 4 rfl ?_
    refine ax_Wp.brD hD rfl (fun _ hD => ?_) (fun _ hD => ?_)
    · refine ax_Wp.go (f' := (31, [some (.ref 2), none, some (.int p1), some (.int s1.1), some (.int s1.2), some (.int (s1.1 ||| x2))], [.int s1.1])) 1 rfl ?_
      obtain rfl := inj hD
      obtain rfl := ks1.o
      exact ax_Wp.ret rfl ⟨rfl, rfl⟩
    · refine ax_Wp.go (f' := (7, [some (.ref 2), none, some (.int p1), some (.int (s1.1 ||| x2)), some (.int (s1.2 + (nI 1))), some (.int (s1.1 ||| x2))], [])) 4 rfl ?_
      obtain rfl := inj hD
      exact ax_Wp.dead ks1.i ⟨.inl rfl, ⟨.inl rfl, ⟨.inl rfl, ⟨.inl rfl, ⟨.inl rfl, ⟨.inr ⟨rfl, trivial⟩, trivial⟩⟩⟩⟩⟩⟩
def D113 (m : dM) (p0 : Int32) : Option (Int32 ⊕ Nat) := cT (D124 p0) m (fun (x1 : Unit) => (gI m 6 4 p0).bind fun (x4 : Int32) => (D3 m p0).bind fun (x5 : Int32) => (D66 m x4 x5).bind fun (x6 : Int32) => some (.inl x6)) (fun (j2 : Nat) (m3 : dM) => some (.inr j2))
set_option maxRecDepth 20000 in
theorem w_113 {X : Nat × (Nat → Int32)} {d : Nat} {m : dM} {p0 : Int32} {r : Int32 ⊕ Nat} (hD : D113 m p0 = some r) : ax_Ev X (d + 7) 113 [.ref 0, .int p0] (stt m) (oT (fun x => some (.int x)) r) (stt (bT m r)) := by
  unfold D113 at hD
  show ax_Wp X (d + 6 + 1) 113 (0, [some (.ref 0), some (.int p0)], []) (stt m) _
  refine ax_Wp.go (f' := (1, [some (.ref 0), some (.int p0)], [.int p0])) 1 rfl ?_
  refine cT.sp hD (fun x1 hx hD => ?_) (fun j2 hx hD => ?_)
  · refine ax_Wp.callE (f' := (4, [some (.ref 0), some (.int p0)], [])) rfl rfl (w_124 (d := d + 0) hx) rfl ?_
    refine ax_Wp.go (f' := (22, [some (.ref 0), some (.int p0)], [.int p0, .ref 6, .ref 2])) 8 rfl ?_
    refine ax_Wp.rdI hD rfl rfl rfl (fun x4 hD => ?_)
    refine ax_Wp.go (f' := (31, [some (.ref 0), some (.int p0)], [.int p0, .ref 5, .int x4, .ref 2])) 4 rfl ?_
    refine bnd hD (fun x5 hx hD => ?_)
    refine ax_Wp.callE (f' := (34, [some (.ref 0), some (.int p0)], [.int x4, .ref 2])) rfl rfl (w_3 (d := d + 5) hx) rfl ?_
    refine bnd hD (fun x6 hx hD => ?_)
    refine ax_Wp.callE (f' := (37, [some (.ref 0), some (.int p0)], [])) rfl rfl (w_66 (d := d + 3) hx) rfl ?_
    obtain rfl := inj hD
    exact ax_Wp.ret rfl ⟨rfl, rfl⟩
  · obtain rfl := inj hD
    exact ax_Wp.callX (f' := (4, [some (.ref 0), some (.int p0)], [])) rfl rfl (w_124 (d := d + 0) hx) rfl ⟨rfl, rfl⟩
def D276 (m : dM) (p0 : Int32) : Option (Int32 × dM) := cT (D113 m p0) m (fun (x1 : Int32) => (sL m 138 1 (nI 0) x1.toInt64).bind fun (m4 : dM) => some (nI 0, m4)) (fun (j2 : Nat) (m3 : dM) => if j2 = 0 then some (nI 1, m3) else none)
set_option maxRecDepth 20000 in
theorem w_276 {X : Nat × (Nat → Int32)} {d : Nat} {m : dM} {p0 : Int32} {r : Int32 × dM} (hD : D276 m p0 = some r) : ax_Ev X (d + 8) 276 [.ref 0, .int p0, .ref 138] (stt m) (.inl (some (.int r.1))) (stt r.2) := by
  unfold D276 at hD
  show ax_Wp X (d + 7 + 1) 276 (0, [some (.ref 0), some (.int p0), some (.ref 138), none], []) (stt m) _
  refine ax_Wp.go (f' := (4, [some (.ref 0), some (.int p0), some (.ref 138), none], [.int p0, .ref 0, .int (nI 0), .ref 138])) 4 rfl ?_
  refine cT.sp hD (fun x1 hx hD => ?_) (fun j2 hx hD => ?_)
  · refine ax_Wp.callE (f' := (7, [some (.ref 0), some (.int p0), some (.ref 138), none], [.int (nI 0), .ref 138])) rfl rfl (w_113 (d := d + 0) hx) rfl ?_
    refine ax_Wp.go (f' := (8, [some (.ref 0), some (.int p0), some (.ref 138), none], [.long x1.toInt64, .int (nI 0), .ref 138])) 1 rfl ?_
    refine ax_Wp.wrL hD rfl rfl (fun _ => rfl) (fun m4 hD => ?_)
    refine ax_Wp.go (f' := (16, [some (.ref 0), some (.int p0), some (.ref 138), none], [.int (nI 0)])) 2 rfl ?_
    obtain rfl := inj hD
    exact ax_Wp.ret rfl ⟨rfl, rfl⟩
  · refine swD hD (fun e hD => ?_) (fun _ hD => ?_)
    · cases e
      refine ax_Wp.callH (f' := (7, [some (.ref 0), some (.int p0), some (.ref 138), none], [.int (nI 0), .ref 138])) (pc2 := 13) (i := 3) rfl rfl (w_113 (d := d + 0) hx) rfl rfl rfl ?_
      refine ax_Wp.go (f' := (14, [some (.ref 0), some (.int p0), some (.ref 138), none], [.int (nI 1)])) 1 rfl ?_
      obtain rfl := inj hD
      exact ax_Wp.ret rfl ⟨rfl, rfl⟩
    cases hD
def D67 (m : dM) (p0 : Int32) (p1 : Int32) : Option (Int32 × dM) := Option.bind (lp (β := dM) 3000 (fun (s1 : Int32 × dM) => if (nI 10) ≤ s1.1 then some (.inr s1.2) else (D65 s1.2 ((nI 1) <<< (s1.1 &&& nI 31)) p1).bind fun (x3 : Int32) => (sI s1.2 44 10 s1.1 (((nI 1) <<< (s1.1 &&& nI 31)) ||| x3)).bind fun (m4 : dM) => some (.inl (s1.1 + (nI 1), m4))) (nI 0, m)) fun (v2 : dM) => Option.bind (lp (β := dM) 3000 (fun (s5 : Int32 × dM) => if (nI 10) ≤ s5.1 then some (.inr s5.2) else Option.bind (lp (β := dM) 3000 (fun (s7 : Int32 × dM) => if (nI 10) ≤ s7.1 then some (.inr s7.2) else (gI s7.2 44 10 s7.1).bind fun (x9 : Int32) => Option.bind ((if ((x9 >>> (s5.1 &&& nI 31)) &&& (nI 1)) = (nI 1) then (gI s7.2 44 10 s7.1).bind fun (x11 : Int32) => (gI s7.2 44 10 s5.1).bind fun (x12 : Int32) => (sI s7.2 44 10 s7.1 (x11 ||| x12)).bind fun (m13 : dM) => some m13 else some s7.2) : Option (dM)) fun (v10 : dM) => some (.inl (s7.1 + (nI 1), v10))) (nI 0, s5.2)) fun (v8 : dM) => some (.inl (s5.1 + (nI 1), v8))) (nI 0, v2)) fun (v6 : dM) => Option.bind ((if p0 < (nI 0) then some (nI 0) else if (nI 10) ≤ p0 then some (nI 0) else (gI v6 44 10 p0).bind fun (x15 : Int32) => some x15) : Option (Int32)) fun (v14 : Int32) => some (v14, v6)
set_option maxRecDepth 20000 in
theorem w_67 {X : Nat × (Nat → Int32)} {d : Nat} {m : dM} {p0 : Int32} {p1 : Int32} {r : Int32 × dM} (hD : D67 m p0 p1 = some r) : ax_Ev X (d + 3) 67 [.ref 2, .int p0, .int p1, .ref 44] (stt m) (.inl (some (.int r.1))) (stt r.2) := by
  unfold D67 at hD
  show ax_Wp X (d + 2 + 1) 67 (0, [some (.ref 2), some (.int p0), some (.int p1), some (.ref 44), none, none], []) (stt m) _
  refine ax_Wp.go (f' := (3, [some (.ref 2), some (.int p0), some (.int p1), some (.ref 44), some (.int (nI 0)), none], [])) 2 rfl ?_
  refine bnd hD (fun v2 hx hD => ?_)
  refine ax_Wp.jn (F := (34, [some (.ref 2), some (.int p0), none, some (.ref 44), none, none], [])) (hh := stt v2) ?_ (fun kkv2 => ?_)
  · refine ax_Wp.go (f' := (37, [some (.ref 2), some (.int p0), none, some (.ref 44), some (.int (nI 0)), none], [])) 2 rfl ?_
    refine bnd hD (fun v6 hx hD => ?_)
    refine ax_Wp.jn (F := (90, [some (.ref 2), some (.int p0), none, some (.ref 44), none, none], [])) (hh := stt v6) ?_ (fun kkv6 => ?_)
    · refine ax_Wp.go (f' := (91, [some (.ref 2), some (.int p0), none, some (.ref 44), none, none], [.int p0])) 1 rfl ?_
      refine bnd hD (fun v14 hx hD => ?_)
      refine ax_Wp.jn (F := (107, [some (.ref 2), none, none, some (.ref 44), none, none], [.int v14])) (hh := stt v6) ?_ (fun kkv14 => ?_)
      · obtain rfl := inj hD
        exact ax_Wp.ret rfl ⟨rfl, rfl⟩
      clear hD
      have hD := hx
      clear hx
      refine ax_Wp.brD hD rfl (fun _ hD => ?_) (fun _ hD => ?_)
      · refine ax_Wp.go (f' := (107, [some (.ref 2), some (.int p0), none, some (.ref 44), none, none], [.int (nI 0)])) 1 rfl ?_
        obtain rfl := inj hD
        exact ax_Wp.dead kkv14 ⟨.inl rfl, ⟨.inr ⟨rfl, trivial⟩, ⟨.inl rfl, ⟨.inl rfl, ⟨.inl rfl, ⟨.inl rfl, trivial⟩⟩⟩⟩⟩⟩
      · refine ax_Wp.go (f' := (97, [some (.ref 2), some (.int p0), none, some (.ref 44), none, none], [.int (nI 10), .int p0])) 3 rfl ?_
        refine ax_Wp.brD hD rfl (fun _ hD => ?_) (fun _ hD => ?_)
        · refine ax_Wp.go (f' := (107, [some (.ref 2), some (.int p0), none, some (.ref 44), none, none], [.int (nI 0)])) 1 rfl ?_
          obtain rfl := inj hD
          exact ax_Wp.dead kkv14 ⟨.inl rfl, ⟨.inr ⟨rfl, trivial⟩, ⟨.inl rfl, ⟨.inl rfl, ⟨.inl rfl, ⟨.inl rfl, trivial⟩⟩⟩⟩⟩⟩
        · refine ax_Wp.go (f' := (102, [some (.ref 2), some (.int p0), none, some (.ref 44), none, none], [.int p0, .ref 44])) 2 rfl ?_
          refine ax_Wp.rdI hD rfl rfl rfl (fun x15 hD => ?_)
          refine ax_Wp.go (f' := (107, [some (.ref 2), some (.int p0), none, some (.ref 44), none, none], [.int x15])) 1 rfl ?_
          obtain rfl := inj hD
          exact ax_Wp.dead kkv14 ⟨.inl rfl, ⟨.inr ⟨rfl, trivial⟩, ⟨.inl rfl, ⟨.inl rfl, ⟨.inl rfl, ⟨.inl rfl, trivial⟩⟩⟩⟩⟩⟩
    clear hD
    refine ax_Wp.lpD (fun (s5 : Int32 × dM) => ((37, [some (.ref 2), some (.int p0), none, some (.ref 44), some (.int s5.1), none], []), stt s5.2)) ?_ hx
    clear hx
    intro s5 v hD ks5
    refine ax_Wp.go (f' := (41, [some (.ref 2), some (.int p0), none, some (.ref 44), some (.int s5.1), none], [.int (nI 10), .int s5.1])) 3 rfl ?_
    refine ax_Wp.brD hD rfl (fun _ hD => ?_) (fun _ hD => ?_)
    · obtain rfl := inj hD
      obtain rfl := ks5.o
      exact ax_Wp.dead kkv6 ⟨.inl rfl, ⟨.inl rfl, ⟨.inl rfl, ⟨.inl rfl, ⟨.inr ⟨rfl, trivial⟩, ⟨.inl rfl, trivial⟩⟩⟩⟩⟩⟩
    · refine ax_Wp.go (f' := (47, [some (.ref 2), some (.int p0), none, some (.ref 44), some (.int s5.1), some (.int (nI 0))], [])) 2 rfl ?_
      refine bnd hD (fun v8 hx hD => ?_)
      refine ax_Wp.jn (F := (84, [some (.ref 2), some (.int p0), none, some (.ref 44), some (.int s5.1), none], [])) (hh := stt v8) ?_ (fun kkv8 => ?_)
      · refine ax_Wp.go (f' := (37, [some (.ref 2), some (.int p0), none, some (.ref 44), some (.int (s5.1 + (nI 1))), none], [])) 2 rfl ?_
        obtain rfl := inj hD
        exact ks5.i
      clear hD
      refine ax_Wp.lpD (fun (s7 : Int32 × dM) => ((47, [some (.ref 2), some (.int p0), none, some (.ref 44), some (.int s5.1), some (.int s7.1)], []), stt s7.2)) ?_ hx
      clear hx
      intro s7 v hD ks7
      refine ax_Wp.go (f' := (51, [some (.ref 2), some (.int p0), none, some (.ref 44), some (.int s5.1), some (.int s7.1)], [.int (nI 10), .int s7.1])) 3 rfl ?_
      refine ax_Wp.brD hD rfl (fun _ hD => ?_) (fun _ hD => ?_)
      · obtain rfl := inj hD
        obtain rfl := ks7.o
        exact ax_Wp.dead kkv8 ⟨.inl rfl, ⟨.inl rfl, ⟨.inl rfl, ⟨.inl rfl, ⟨.inl rfl, ⟨.inr ⟨rfl, trivial⟩, trivial⟩⟩⟩⟩⟩⟩
      · refine ax_Wp.go (f' := (57, [some (.ref 2), some (.int p0), none, some (.ref 44), some (.int s5.1), some (.int s7.1)], [.int s7.1, .ref 44])) 2 rfl ?_
        refine ax_Wp.rdI hD rfl rfl rfl (fun x9 hD => ?_)
        refine ax_Wp.go (f' := (64, [some (.ref 2), some (.int p0), none, some (.ref 44), some (.int s5.1), some (.int s7.1)], [.int (nI 1), .int ((x9 >>> (s5.1 &&& nI 31)) &&& (nI 1))])) 5 rfl ?_
        refine bnd hD (fun v10 hx hD => ?_)
        refine ax_Wp.jn (F := (78, [some (.ref 2), some (.int p0), none, some (.ref 44), some (.int s5.1), some (.int s7.1)], [])) (hh := stt v10) ?_ (fun kkv10 => ?_)
        · refine ax_Wp.go (f' := (47, [some (.ref 2), some (.int p0), none, some (.ref 44), some (.int s5.1), some (.int (s7.1 + (nI 1)))], [])) 2 rfl ?_
          obtain rfl := inj hD
          exact ks7.i
        clear hD
        have hD := hx
        clear hx
        refine ax_Wp.brD hD rfl (fun _ hD => ?_) (fun _ hD => ?_)
        · refine ax_Wp.go (f' := (71, [some (.ref 2), some (.int p0), none, some (.ref 44), some (.int s5.1), some (.int s7.1)], [.int s7.1, .ref 44, .int s7.1, .ref 44])) 3 rfl ?_
          refine ax_Wp.rdI hD rfl rfl rfl (fun x11 hD => ?_)
          refine ax_Wp.go (f' := (75, [some (.ref 2), some (.int p0), none, some (.ref 44), some (.int s5.1), some (.int s7.1)], [.int s5.1, .ref 44, .int x11, .int s7.1, .ref 44])) 2 rfl ?_
          refine ax_Wp.rdI hD rfl rfl rfl (fun x12 hD => ?_)
          refine ax_Wp.go (f' := (77, [some (.ref 2), some (.int p0), none, some (.ref 44), some (.int s5.1), some (.int s7.1)], [.int (x11 ||| x12), .int s7.1, .ref 44])) 1 rfl ?_
          refine ax_Wp.wrI hD rfl rfl (fun _ => rfl) (fun m13 hD => ?_)
          obtain rfl := inj hD
          exact kkv10
        · obtain rfl := inj hD
          exact kkv10
  clear hD
  refine ax_Wp.lpD (fun (s1 : Int32 × dM) => ((3, [some (.ref 2), some (.int p0), some (.int p1), some (.ref 44), some (.int s1.1), none], []), stt s1.2)) ?_ hx
  clear hx
  intro s1 v hD ks1
  refine ax_Wp.go (f' := (7, [some (.ref 2), some (.int p0), some (.int p1), some (.ref 44), some (.int s1.1), none], [.int (nI 10), .int s1.1])) 3 rfl ?_
  refine ax_Wp.brD hD rfl (fun _ hD => ?_) (fun _ hD => ?_)
  · obtain rfl := inj hD
    obtain rfl := ks1.o
    exact ax_Wp.dead kkv2 ⟨.inl rfl, ⟨.inl rfl, ⟨.inr ⟨rfl, trivial⟩, ⟨.inl rfl, ⟨.inr ⟨rfl, trivial⟩, ⟨.inl rfl, trivial⟩⟩⟩⟩⟩⟩
  · refine ax_Wp.go (f' := (23, [some (.ref 2), some (.int p0), some (.int p1), some (.ref 44), some (.int s1.1), none], [.int p1, .int ((nI 1) <<< (s1.1 &&& nI 31)), .ref 2, .int ((nI 1) <<< (s1.1 &&& nI 31)), .int s1.1, .ref 44])) 10 rfl ?_
    refine bnd hD (fun x3 hx hD => ?_)
    refine ax_Wp.callE (f' := (26, [some (.ref 2), some (.int p0), some (.int p1), some (.ref 44), some (.int s1.1), none], [.int ((nI 1) <<< (s1.1 &&& nI 31)), .int s1.1, .ref 44])) rfl rfl (w_65 (d := d + 0) hx) rfl ?_
    refine ax_Wp.go (f' := (27, [some (.ref 2), some (.int p0), some (.int p1), some (.ref 44), some (.int s1.1), none], [.int (((nI 1) <<< (s1.1 &&& nI 31)) ||| x3), .int s1.1, .ref 44])) 1 rfl ?_
    refine ax_Wp.wrI hD rfl rfl (fun _ => rfl) (fun m4 hD => ?_)
    refine ax_Wp.go (f' := (3, [some (.ref 2), some (.int p0), some (.int p1), some (.ref 44), some (.int (s1.1 + (nI 1))), none], [])) 2 rfl ?_
    obtain rfl := inj hD
    exact ks1.i
def D114 (m : dM) (p0 : Int32) : Option ((Int32 ⊕ Nat) × dM) := cT (D124 p0) m (fun (x1 : Unit) => (gI m 6 4 p0).bind fun (x4 : Int32) => (D3 m p0).bind fun (x5 : Int32) => (D67 m x4 x5).bind fun (r6 : Int32 × dM) => some (.inl r6.1, r6.2)) (fun (j2 : Nat) (m3 : dM) => some (.inr j2, m3))
set_option maxRecDepth 20000 in
theorem w_114 {X : Nat × (Nat → Int32)} {d : Nat} {m : dM} {p0 : Int32} {r : (Int32 ⊕ Nat) × dM} (hD : D114 m p0 = some r) : ax_Ev X (d + 7) 114 [.ref 0, .int p0] (stt m) (oT (fun x => some (.int x)) r.1) (stt r.2) := by
  unfold D114 at hD
  show ax_Wp X (d + 6 + 1) 114 (0, [some (.ref 0), some (.int p0)], []) (stt m) _
  refine ax_Wp.go (f' := (1, [some (.ref 0), some (.int p0)], [.int p0])) 1 rfl ?_
  refine cT.sp hD (fun x1 hx hD => ?_) (fun j2 hx hD => ?_)
  · refine ax_Wp.callE (f' := (4, [some (.ref 0), some (.int p0)], [])) rfl rfl (w_124 (d := d + 0) hx) rfl ?_
    refine ax_Wp.go (f' := (22, [some (.ref 0), some (.int p0)], [.int p0, .ref 6, .ref 2])) 8 rfl ?_
    refine ax_Wp.rdI hD rfl rfl rfl (fun x4 hD => ?_)
    refine ax_Wp.go (f' := (31, [some (.ref 0), some (.int p0)], [.int p0, .ref 5, .int x4, .ref 2])) 4 rfl ?_
    refine bnd hD (fun x5 hx hD => ?_)
    refine ax_Wp.callE (f' := (34, [some (.ref 0), some (.int p0)], [.int x4, .ref 2])) rfl rfl (w_3 (d := d + 5) hx) rfl ?_
    refine ax_Wp.go (f' := (38, [some (.ref 0), some (.int p0)], [.ref 44, .int x5, .int x4, .ref 2])) 2 rfl ?_
    refine bnd hD (fun r6 hx hD => ?_)
    refine ax_Wp.callE (f' := (41, [some (.ref 0), some (.int p0)], [])) rfl rfl (w_67 (d := d + 3) hx) rfl ?_
    obtain rfl := inj hD
    exact ax_Wp.ret rfl ⟨rfl, rfl⟩
  · obtain rfl := inj hD
    exact ax_Wp.callX (f' := (4, [some (.ref 0), some (.int p0)], [])) rfl rfl (w_124 (d := d + 0) hx) rfl ⟨rfl, rfl⟩
def D277 (m : dM) (p0 : Int32) : Option (Int32 × dM) := cG (D114 m p0) (fun (x1 : Int32) (m4 : dM) => (sL m4 138 1 (nI 0) x1.toInt64).bind fun (m5 : dM) => some (nI 0, m5)) (fun (j2 : Nat) (m3 : dM) => if j2 = 0 then some (nI 1, m3) else none)
set_option maxRecDepth 20000 in
theorem w_277 {X : Nat × (Nat → Int32)} {d : Nat} {m : dM} {p0 : Int32} {r : Int32 × dM} (hD : D277 m p0 = some r) : ax_Ev X (d + 8) 277 [.ref 0, .int p0, .ref 138] (stt m) (.inl (some (.int r.1))) (stt r.2) := by
  unfold D277 at hD
  show ax_Wp X (d + 7 + 1) 277 (0, [some (.ref 0), some (.int p0), some (.ref 138), none], []) (stt m) _
  refine ax_Wp.go (f' := (4, [some (.ref 0), some (.int p0), some (.ref 138), none], [.int p0, .ref 0, .int (nI 0), .ref 138])) 4 rfl ?_
  refine cG.sp hD (fun x1 m4 hx hD => ?_) (fun j2 m3 hx hD => ?_)
  · refine ax_Wp.callE (f' := (7, [some (.ref 0), some (.int p0), some (.ref 138), none], [.int (nI 0), .ref 138])) rfl rfl (w_114 (d := d + 0) hx) rfl ?_
    refine ax_Wp.go (f' := (8, [some (.ref 0), some (.int p0), some (.ref 138), none], [.long x1.toInt64, .int (nI 0), .ref 138])) 1 rfl ?_
    refine ax_Wp.wrL hD rfl rfl (fun _ => rfl) (fun m5 hD => ?_)
    refine ax_Wp.go (f' := (16, [some (.ref 0), some (.int p0), some (.ref 138), none], [.int (nI 0)])) 2 rfl ?_
    obtain rfl := inj hD
    exact ax_Wp.ret rfl ⟨rfl, rfl⟩
  · refine swD hD (fun e hD => ?_) (fun _ hD => ?_)
    · cases e
      refine ax_Wp.callH (f' := (7, [some (.ref 0), some (.int p0), some (.ref 138), none], [.int (nI 0), .ref 138])) (pc2 := 13) (i := 3) rfl rfl (w_114 (d := d + 0) hx) rfl rfl rfl ?_
      refine ax_Wp.go (f' := (14, [some (.ref 0), some (.int p0), some (.ref 138), none], [.int (nI 1)])) 1 rfl ?_
      obtain rfl := inj hD
      exact ax_Wp.ret rfl ⟨rfl, rfl⟩
    cases hD
def D68 (m : dM) (p0 : Int32) (p1 : Int32) (p2 : Int32) : Option (Int32) := lp (β := Int32) 3000 (fun (s1 : Int32 × Int32) => if (nI 10) ≤ s1.2 then some (.inr (-1)) else if ((s1.1 >>> (p1 &&& nI 31)) &&& (nI 1)) = (nI 1) then some (.inr s1.2) else (D65 m s1.1 p2).bind fun (x2 : Int32) => if (s1.1 ||| x2) = s1.1 then some (.inr (-1)) else some (.inl (s1.1 ||| x2, s1.2 + (nI 1)))) ((nI 1) <<< (p0 &&& nI 31), nI 0)
set_option maxRecDepth 20000 in
theorem w_68 {X : Nat × (Nat → Int32)} {d : Nat} {m : dM} {p0 : Int32} {p1 : Int32} {p2 : Int32} {r : Int32} (hD : D68 m p0 p1 p2 = some r) : ax_Ev X (d + 3) 68 [.ref 2, .int p0, .int p1, .int p2] (stt m) (.inl (some (.int r))) (stt m) := by
  unfold D68 at hD
  show ax_Wp X (d + 2 + 1) 68 (0, [some (.ref 2), some (.int p0), some (.int p1), some (.int p2), none, none, none], []) (stt m) _
  refine ax_Wp.go (f' := (8, [some (.ref 2), some (.int p0), some (.int p1), some (.int p2), some (.int ((nI 1) <<< (p0 &&& nI 31))), some (.int (nI 0)), none], [])) 6 rfl ?_
  refine ax_Wp.dead (L := [some (.ref 2), none, some (.int p1), some (.int p2), some (.int ((nI 1) <<< (p0 &&& nI 31))), some (.int (nI 0)), none]) ?_ ⟨.inl rfl, ⟨.inr ⟨rfl, trivial⟩, ⟨.inl rfl, ⟨.inl rfl, ⟨.inl rfl, ⟨.inl rfl, ⟨.inl rfl, trivial⟩⟩⟩⟩⟩⟩⟩
  refine ax_Wp.lpD (fun (s1 : Int32 × Int32) => ((8, [some (.ref 2), none, some (.int p1), some (.int p2), some (.int s1.1), some (.int s1.2), none], []), stt m)) ?_ hD
  clear hD
  intro s1 v hD ks1
  refine ax_Wp.go (f' := (12, [some (.ref 2), none, some (.int p1), some (.int p2), some (.int s1.1), some (.int s1.2), none], [.int (nI 10), .int s1.2])) 2 rfl ?_
  refine ax_Wp.brD hD rfl (fun _ hD => ?_) (fun _ hD => ?_)
  · refine ax_Wp.go (f' := (60, [some (.ref 2), none, some (.int p1), some (.int p2), some (.int s1.1), some (.int s1.2), none], [.int (-1)])) 1 rfl ?_
    obtain rfl := inj hD
    obtain rfl := ks1.o
    exact ax_Wp.ret rfl ⟨rfl, rfl⟩
  · refine ax_Wp.go (f' := (22, [some (.ref 2), none, some (.int p1), some (.int p2), some (.int s1.1), some (.int s1.2), none], [.int (nI 1), .int ((s1.1 >>> (p1 &&& nI 31)) &&& (nI 1))])) 6 rfl ?_
    refine ax_Wp.brD hD rfl (fun _ hD => ?_) (fun _ hD => ?_)
    · refine ax_Wp.go (f' := (27, [some (.ref 2), none, some (.int p1), some (.int p2), some (.int s1.1), some (.int s1.2), none], [.int s1.2])) 1 rfl ?_
      obtain rfl := inj hD
      obtain rfl := ks1.o
      exact ax_Wp.ret rfl ⟨rfl, rfl⟩
    · refine ax_Wp.go (f' := (34, [some (.ref 2), none, some (.int p1), some (.int p2), some (.int s1.1), some (.int s1.2), none], [.int p2, .int s1.1, .ref 2, .int s1.1])) 4 rfl ?_
      refine bnd hD (fun x2 hx hD => ?_)
      refine ax_Wp.callE (f' := (37, [some (.ref 2), none, some (.int p1), some (.int p2), some (.int s1.1), some (.int s1.2), none], [.int s1.1])) rfl rfl (w_65 (d := d + 0) hx) rfl ?_
      refine ax_Wp.go (f' := (44, [some (.ref 2), none, some (.int p1), some (.int p2), some (.int s1.1), some (.int s1.2), some (.int (s1.1 ||| x2))], [.int s1.1, .int (s1.1 ||| x2)])) 4 rfl ?_
      refine ax_Wp.brD hD rfl (fun _ hD => ?_) (fun _ hD => ?_)
      · refine ax_Wp.go (f' := (48, [some (.ref 2), none, some (.int p1), some (.int p2), some (.int s1.1), some (.int s1.2), some (.int (s1.1 ||| x2))], [.int (-1)])) 1 rfl ?_
        obtain rfl := inj hD
        obtain rfl := ks1.o
        exact ax_Wp.ret rfl ⟨rfl, rfl⟩
      · refine ax_Wp.go (f' := (8, [some (.ref 2), none, some (.int p1), some (.int p2), some (.int (s1.1 ||| x2)), some (.int (s1.2 + (nI 1))), some (.int (s1.1 ||| x2))], [])) 4 rfl ?_
        obtain rfl := inj hD
        exact ax_Wp.dead ks1.i ⟨.inl rfl, ⟨.inl rfl, ⟨.inl rfl, ⟨.inl rfl, ⟨.inl rfl, ⟨.inl rfl, ⟨.inr ⟨rfl, trivial⟩, trivial⟩⟩⟩⟩⟩⟩⟩
def D53 (m : dM) (p0 : Int32) (p1 : Int32) : Option (Int32) := (D128 p0).bind fun (x1 : Int32) => if x1 = (nI 0) then some (-1) else (gI m 6 4 p0).bind fun (x2 : Int32) => (D3 m p0).bind fun (x3 : Int32) => (D68 m x2 p1 x3).bind fun (x4 : Int32) => some x4
set_option maxRecDepth 20000 in
theorem w_53 {X : Nat × (Nat → Int32)} {d : Nat} {m : dM} {p0 : Int32} {p1 : Int32} {r : Int32} (hD : D53 m p0 p1 = some r) : ax_Ev X (d + 4) 53 [.ref 1, .int p0, .int p1] (stt m) (.inl (some (.int r))) (stt m) := by
  unfold D53 at hD
  show ax_Wp X (d + 3 + 1) 53 (0, [some (.ref 1), some (.int p0), some (.int p1)], []) (stt m) _
  refine ax_Wp.go (f' := (1, [some (.ref 1), some (.int p0), some (.int p1)], [.int p0])) 1 rfl ?_
  refine bnd hD (fun x1 hx hD => ?_)
  refine ax_Wp.callE (f' := (4, [some (.ref 1), some (.int p0), some (.int p1)], [])) rfl rfl (w_128 (d := d + 2) hx) rfl ?_
  refine ax_Wp.brD hD rfl (fun _ hD => ?_) (fun _ hD => ?_)
  · refine ax_Wp.go (f' := (8, [some (.ref 1), some (.int p0), some (.int p1)], [.int (-1)])) 1 rfl ?_
    obtain rfl := inj hD
    exact ax_Wp.ret rfl ⟨rfl, rfl⟩
  · refine ax_Wp.go (f' := (21, [some (.ref 1), some (.int p0), some (.int p1)], [.int p0, .ref 6, .ref 2])) 6 rfl ?_
    refine ax_Wp.rdI hD rfl rfl rfl (fun x2 hD => ?_)
    refine ax_Wp.go (f' := (28, [some (.ref 1), some (.int p0), some (.int p1)], [.int p0, .ref 5, .int p1, .int x2, .ref 2])) 4 rfl ?_
    refine bnd hD (fun x3 hx hD => ?_)
    refine ax_Wp.callE (f' := (31, [some (.ref 1), some (.int p0), some (.int p1)], [.int p1, .int x2, .ref 2])) rfl rfl (w_3 (d := d + 2) hx) rfl ?_
    refine bnd hD (fun x4 hx hD => ?_)
    refine ax_Wp.callE (f' := (34, [some (.ref 1), some (.int p0), some (.int p1)], [])) rfl rfl (w_68 (d := d + 0) hx) rfl ?_
    obtain rfl := inj hD
    exact ax_Wp.ret rfl ⟨rfl, rfl⟩
def D115 (m : dM) (p0 : Int32) (p1 : Int32) : Option (Int32 ⊕ Nat) := cT (D124 p0) m (fun (x1 : Unit) => cT (D123 p1) m (fun (x4 : Unit) => (D53 m p0 p1).bind fun (x7 : Int32) => some (.inl x7)) (fun (j5 : Nat) (m6 : dM) => some (.inr j5))) (fun (j2 : Nat) (m3 : dM) => some (.inr j2))
set_option maxRecDepth 20000 in
theorem w_115 {X : Nat × (Nat → Int32)} {d : Nat} {m : dM} {p0 : Int32} {p1 : Int32} {r : Int32 ⊕ Nat} (hD : D115 m p0 p1 = some r) : ax_Ev X (d + 7) 115 [.ref 0, .int p0, .int p1] (stt m) (oT (fun x => some (.int x)) r) (stt (bT m r)) := by
  unfold D115 at hD
  show ax_Wp X (d + 6 + 1) 115 (0, [some (.ref 0), some (.int p0), some (.int p1)], []) (stt m) _
  refine ax_Wp.go (f' := (1, [some (.ref 0), some (.int p0), some (.int p1)], [.int p0])) 1 rfl ?_
  refine cT.sp hD (fun x1 hx hD => ?_) (fun j2 hx hD => ?_)
  · refine ax_Wp.callE (f' := (4, [some (.ref 0), some (.int p0), some (.int p1)], [])) rfl rfl (w_124 (d := d + 0) hx) rfl ?_
    refine ax_Wp.go (f' := (5, [some (.ref 0), some (.int p0), some (.int p1)], [.int p1])) 1 rfl ?_
    refine cT.sp hD (fun x4 hx hD => ?_) (fun j5 hx hD => ?_)
    · refine ax_Wp.callE (f' := (8, [some (.ref 0), some (.int p0), some (.int p1)], [])) rfl rfl (w_123 (d := d + 0) hx) rfl ?_
      refine ax_Wp.go (f' := (14, [some (.ref 0), some (.int p0), some (.int p1)], [.int p1, .int p0, .ref 1])) 4 rfl ?_
      refine bnd hD (fun x7 hx hD => ?_)
      refine ax_Wp.callE (f' := (17, [some (.ref 0), some (.int p0), some (.int p1)], [])) rfl rfl (w_53 (d := d + 2) hx) rfl ?_
      obtain rfl := inj hD
      exact ax_Wp.ret rfl ⟨rfl, rfl⟩
    · obtain rfl := inj hD
      exact ax_Wp.callX (f' := (8, [some (.ref 0), some (.int p0), some (.int p1)], [])) rfl rfl (w_123 (d := d + 0) hx) rfl ⟨rfl, rfl⟩
  · obtain rfl := inj hD
    exact ax_Wp.callX (f' := (4, [some (.ref 0), some (.int p0), some (.int p1)], [])) rfl rfl (w_124 (d := d + 0) hx) rfl ⟨rfl, rfl⟩
