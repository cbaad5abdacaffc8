/-! WHAT METHODS DO, printed of their bytecode -/
def D91 (m : dM) (p0 : Int32) : Option (Int32 ⊕ Nat) := cT (D126 m p0) m (fun (x1 : Unit) => (gI m 3 24 p0).bind fun (x4 : Int32) => some (.inl x4)) (fun (j2 : Nat) (m3 : dM) => some (.inr j2))
set_option maxRecDepth 20000 in
theorem w_91 {X : Nat × (Nat → Int32)} {d : Nat} {m : dM} {p0 : Int32} {r : Int32 ⊕ Nat} (hD : D91 m p0 = some r) : ax_Ev X (d + 7) 70 [.ref 0, .int p0] (stt m) (oT (fun x => some (.int x)) r) (stt (bT m r)) := by
  unfold D91 at hD
  show ax_Wp X (d + 6 + 1) 70 (0, [some (.ref 0), some (.int p0)], []) (stt m) _
  refine ax_Wp.go (f' := (2, [some (.ref 0), some (.int p0)], [.int p0, .ref 0])) 2 rfl ?_
  refine cT.sp hD (fun x1 hx hD => ?_) (fun j2 hx hD => ?_)
  · refine ax_Wp.callE (f' := (5, [some (.ref 0), some (.int p0)], [])) rfl rfl (w_126 (d := d + 0) hx) rfl ?_
    refine ax_Wp.go (f' := (16, [some (.ref 0), some (.int p0)], [.int p0, .ref 3])) 5 rfl ?_
    refine ax_Wp.rdI hD rfl rfl rfl (fun x4 hD => ?_)
    obtain rfl := inj hD
    exact ax_Wp.ret rfl ⟨rfl, rfl⟩
  · obtain rfl := inj hD
    exact ax_Wp.callX (f' := (5, [some (.ref 0), some (.int p0)], [])) rfl rfl (w_126 (d := d + 0) hx) rfl ⟨rfl, rfl⟩
def D92 (m : dM) (p0 : Int32) : Option (Int32 ⊕ Nat) := cT (D126 m p0) m (fun (x1 : Unit) => (gI m 4 24 p0).bind fun (x4 : Int32) => some (.inl x4)) (fun (j2 : Nat) (m3 : dM) => some (.inr j2))
set_option maxRecDepth 20000 in
theorem w_92 {X : Nat × (Nat → Int32)} {d : Nat} {m : dM} {p0 : Int32} {r : Int32 ⊕ Nat} (hD : D92 m p0 = some r) : ax_Ev X (d + 7) 71 [.ref 0, .int p0] (stt m) (oT (fun x => some (.int x)) r) (stt (bT m r)) := by
  unfold D92 at hD
  show ax_Wp X (d + 6 + 1) 71 (0, [some (.ref 0), some (.int p0)], []) (stt m) _
  refine ax_Wp.go (f' := (2, [some (.ref 0), some (.int p0)], [.int p0, .ref 0])) 2 rfl ?_
  refine cT.sp hD (fun x1 hx hD => ?_) (fun j2 hx hD => ?_)
  · refine ax_Wp.callE (f' := (5, [some (.ref 0), some (.int p0)], [])) rfl rfl (w_126 (d := d + 0) hx) rfl ?_
    refine ax_Wp.go (f' := (16, [some (.ref 0), some (.int p0)], [.int p0, .ref 4])) 5 rfl ?_
    refine ax_Wp.rdI hD rfl rfl rfl (fun x4 hD => ?_)
    obtain rfl := inj hD
    exact ax_Wp.ret rfl ⟨rfl, rfl⟩
  · obtain rfl := inj hD
    exact ax_Wp.callX (f' := (5, [some (.ref 0), some (.int p0)], [])) rfl rfl (w_126 (d := d + 0) hx) rfl ⟨rfl, rfl⟩
def D60 (m : dM) (p0 : Int32) (p1 : Int32) : Option (Int32) := lp (β := Int32) 3000 (fun (s1 : Int32) => if (rI m 2 4) ≤ s1 then some (.inr (-1)) else (gI m 3 24 s1).bind fun (x2 : Int32) => if x2 = p0 then (gI m 4 24 s1).bind fun (x3 : Int32) => if x3 = p1 then some (.inr s1) else some (.inl (s1 + (nI 1))) else some (.inl (s1 + (nI 1)))) (nI 0)
set_option maxRecDepth 20000 in
theorem w_60 {X : Nat × (Nat → Int32)} {d : Nat} {m : dM} {p0 : Int32} {p1 : Int32} {r : Int32} (hD : D60 m p0 p1 = some r) : ax_Ev X (d + 1) 48 [.ref 2, .int p0, .int p1] (stt m) (.inl (some (.int r))) (stt m) := by
  unfold D60 at hD
  show ax_Wp X (d + 0 + 1) 48 (0, [some (.ref 2), some (.int p0), some (.int p1), none], []) (stt m) _
  refine ax_Wp.go (f' := (2, [some (.ref 2), some (.int p0), some (.int p1), some (.int (nI 0))], [])) 2 rfl ?_
  refine ax_Wp.lpD (fun (s1 : Int32) => ((2, [some (.ref 2), some (.int p0), some (.int p1), some (.int s1)], []), stt m)) ?_ hD
  clear hD
  intro s1 v hD ks1
  refine ax_Wp.go (f' := (7, [some (.ref 2), some (.int p0), some (.int p1), some (.int s1)], [.int (rI m 2 4), .int s1])) 3 rfl ?_
  refine ax_Wp.brD hD rfl (fun _ hD => ?_) (fun _ hD => ?_)
  · refine ax_Wp.go (f' := (39, [some (.ref 2), some (.int p0), some (.int p1), some (.int s1)], [.int (-1)])) 1 rfl ?_
    obtain rfl := inj hD
    obtain rfl := ks1.o
    exact ax_Wp.ret rfl ⟨rfl, rfl⟩
  · refine ax_Wp.go (f' := (15, [some (.ref 2), some (.int p0), some (.int p1), some (.int s1)], [.int s1, .ref 3])) 3 rfl ?_
    refine ax_Wp.rdI hD rfl rfl rfl (fun x2 hD => ?_)
    refine ax_Wp.go (f' := (17, [some (.ref 2), some (.int p0), some (.int p1), some (.int s1)], [.int p0, .int x2])) 1 rfl ?_
    refine ax_Wp.brD hD rfl (fun _ hD => ?_) (fun _ hD => ?_)
    · refine ax_Wp.go (f' := (25, [some (.ref 2), some (.int p0), some (.int p1), some (.int s1)], [.int s1, .ref 4])) 3 rfl ?_
      refine ax_Wp.rdI hD rfl rfl rfl (fun x3 hD => ?_)
      refine ax_Wp.go (f' := (27, [some (.ref 2), some (.int p0), some (.int p1), some (.int s1)], [.int p1, .int x3])) 1 rfl ?_
      refine ax_Wp.brD hD rfl (fun _ hD => ?_) (fun _ hD => ?_)
      · refine ax_Wp.go (f' := (31, [some (.ref 2), some (.int p0), some (.int p1), some (.int s1)], [.int s1])) 1 rfl ?_
        obtain rfl := inj hD
        obtain rfl := ks1.o
        exact ax_Wp.ret rfl ⟨rfl, rfl⟩
      · refine ax_Wp.go (f' := (2, [some (.ref 2), some (.int p0), some (.int p1), some (.int (s1 + (nI 1)))], [])) 2 rfl ?_
        obtain rfl := inj hD
        exact ks1.i
    · refine ax_Wp.go (f' := (2, [some (.ref 2), some (.int p0), some (.int p1), some (.int (s1 + (nI 1)))], [])) 2 rfl ?_
      obtain rfl := inj hD
      exact ks1.i
def D61 (m : dM) (p0 : Int32) (p1 : Int32) (p2 : Int32) : Option (Int32 × dM) := if (rI m 2 4) < (nI 24) then (sI m 3 24 (rI m 2 4) p0).bind fun (m1 : dM) => (sI m1 4 24 (rI m 2 4) p1).bind fun (m2 : dM) => Option.bind ((if p2 = (nI 0) then some m2 else (fI m2 2 2 ((rI m2 2 2) ||| ((nI 1) <<< ((rI m 2 4) &&& nI 31)))).bind fun (m4 : dM) => some m4) : Option (dM)) fun (v3 : dM) => (fI v3 2 3 ((rI v3 2 3) ||| ((nI 1) <<< ((rI m 2 4) &&& nI 31)))).bind fun (m5 : dM) => (fI m5 2 4 ((rI m5 2 4) + (nI 1))).bind fun (m6 : dM) => some (rI m 2 4, m6) else some ((-1), m)
set_option maxRecDepth 20000 in
theorem w_61 {X : Nat × (Nat → Int32)} {d : Nat} {m : dM} {p0 : Int32} {p1 : Int32} {p2 : Int32} {r : Int32 × dM} (hD : D61 m p0 p1 p2 = some r) : ax_Ev X (d + 1) 49 [.ref 2, .int p0, .int p1, .int p2] (stt m) (.inl (some (.int r.1))) (stt r.2) := by
  unfold D61 at hD
  show ax_Wp X (d + 0 + 1) 49 (0, [some (.ref 2), some (.int p0), some (.int p1), some (.int p2), none], []) (stt m) _
  refine ax_Wp.go (f' := (10, [some (.ref 2), some (.int p0), some (.int p1), some (.int p2), some (.int (rI m 2 4))], [.int (nI 24), .int (rI m 2 4)])) 5 rfl ?_
  refine ax_Wp.brD hD rfl (fun _ hD => ?_) (fun _ hD => ?_)
  · refine ax_Wp.go (f' := (22, [some (.ref 2), some (.int p0), some (.int p1), some (.int p2), some (.int (rI m 2 4))], [.int p0, .int (rI m 2 4), .ref 3])) 4 rfl ?_
    refine ax_Wp.wrI hD rfl rfl (fun _ => rfl) (fun m1 hD => ?_)
    refine ax_Wp.go (f' := (30, [some (.ref 2), some (.int p0), some (.int p1), some (.int p2), some (.int (rI m 2 4))], [.int p1, .int (rI m 2 4), .ref 4])) 4 rfl ?_
    refine ax_Wp.wrI hD rfl rfl (fun _ => rfl) (fun m2 hD => ?_)
    refine ax_Wp.go (f' := (32, [some (.ref 2), some (.int p0), some (.int p1), some (.int p2), some (.int (rI m 2 4))], [.int p2])) 1 rfl ?_
    refine bnd hD (fun v3 hx hD => ?_)
    refine ax_Wp.jn (F := (48, [some (.ref 2), none, none, none, some (.int (rI m 2 4))], [])) (hh := stt v3) ?_ (fun kkv3 => ?_)
    · refine ax_Wp.go (f' := (58, [some (.ref 2), none, none, none, some (.int (rI m 2 4))], [.int ((rI v3 2 3) ||| ((nI 1) <<< ((rI m 2 4) &&& nI 31))), .ref 2])) 7 rfl ?_
      refine ax_Wp.ptI hD rfl rfl rfl (fun m5 hD => ?_)
      refine ax_Wp.go (f' := (68, [some (.ref 2), none, none, none, some (.int (rI m 2 4))], [.int ((rI m5 2 4) + (nI 1)), .ref 2])) 5 rfl ?_
      refine ax_Wp.ptI hD rfl rfl rfl (fun m6 hD => ?_)
      refine ax_Wp.go (f' := (73, [some (.ref 2), none, none, none, some (.int (rI m 2 4))], [.int (rI m 2 4)])) 1 rfl ?_
      obtain rfl := inj hD
      exact ax_Wp.ret rfl ⟨rfl, rfl⟩
    clear hD
    have hD := hx
    clear hx
    refine ax_Wp.brD hD rfl (fun _ hD => ?_) (fun _ hD => ?_)
    · obtain rfl := inj hD
      exact ax_Wp.dead kkv3 ⟨.inl rfl, ⟨.inr ⟨rfl, trivial⟩, ⟨.inr ⟨rfl, trivial⟩, ⟨.inr ⟨rfl, trivial⟩, ⟨.inl rfl, trivial⟩⟩⟩⟩⟩
    · refine ax_Wp.go (f' := (45, [some (.ref 2), some (.int p0), some (.int p1), some (.int p2), some (.int (rI m 2 4))], [.int ((rI m2 2 2) ||| ((nI 1) <<< ((rI m 2 4) &&& nI 31))), .ref 2])) 7 rfl ?_
      refine ax_Wp.ptI hD rfl rfl rfl (fun m4 hD => ?_)
      obtain rfl := inj hD
      exact ax_Wp.dead kkv3 ⟨.inl rfl, ⟨.inr ⟨rfl, trivial⟩, ⟨.inr ⟨rfl, trivial⟩, ⟨.inr ⟨rfl, trivial⟩, ⟨.inl rfl, trivial⟩⟩⟩⟩⟩
  · refine ax_Wp.go (f' := (14, [some (.ref 2), some (.int p0), some (.int p1), some (.int p2), some (.int (rI m 2 4))], [.int (-1)])) 1 rfl ?_
    obtain rfl := inj hD
    exact ax_Wp.ret rfl ⟨rfl, rfl⟩
def D70 (m : dM) (p0 : Int32) (p1 : Int32) (p2 : Int32) : Option ((Int32 ⊕ Nat) × dM) := cT (D123 p0) m (fun (x1 : Unit) => cT (D123 p1) m (fun (x4 : Unit) => if p0 = p1 then some (.inr 1, (bump m)) else if (nI 24) ≤ (rI m 2 4) then some (.inr 2, (bump m)) else (D60 m p0 p1).bind fun (x7 : Int32) => if x7 = (-1) then (D131 m).bind fun (r8 : dM) => (D61 r8 p0 p1 p2).bind fun (r9 : Int32 × dM) => some (.inl r9.1, r9.2) else some (.inr 2, (bump m))) (fun (j5 : Nat) (m6 : dM) => some (.inr j5, m6))) (fun (j2 : Nat) (m3 : dM) => some (.inr j2, m3))
set_option maxRecDepth 20000 in
theorem w_70 {X : Nat × (Nat → Int32)} {d : Nat} {m : dM} {p0 : Int32} {p1 : Int32} {p2 : Int32} {r : (Int32 ⊕ Nat) × dM} (hD : D70 m p0 p1 p2 = some r) : ax_Ev X (d + 7) 58 [.ref 0, .int p0, .int p1, .int p2] (stt m) (oT (fun x => some (.int x)) r.1) (stt r.2) := by
  unfold D70 at hD
  show ax_Wp X (d + 6 + 1) 58 (0, [some (.ref 0), some (.int p0), some (.int p1), some (.int p2)], []) (stt m) _
  refine ax_Wp.go (f' := (1, [some (.ref 0), some (.int p0), some (.int p1), some (.int p2)], [.int p0])) 1 rfl ?_
  refine cT.sp hD (fun x1 hx hD => ?_) (fun j2 hx hD => ?_)
  · refine ax_Wp.callE (f' := (4, [some (.ref 0), some (.int p0), some (.int p1), some (.int p2)], [])) rfl rfl (w_123 (d := d + 0) hx) rfl ?_
    refine ax_Wp.go (f' := (5, [some (.ref 0), some (.int p0), some (.int p1), some (.int p2)], [.int p1])) 1 rfl ?_
    refine cT.sp hD (fun x4 hx hD => ?_) (fun j5 hx hD => ?_)
    · refine ax_Wp.callE (f' := (8, [some (.ref 0), some (.int p0), some (.int p1), some (.int p2)], [])) rfl rfl (w_123 (d := d + 0) hx) rfl ?_
      refine ax_Wp.go (f' := (10, [some (.ref 0), some (.int p0), some (.int p1), some (.int p2)], [.int p1, .int p0])) 2 rfl ?_
      refine ax_Wp.brD hD rfl (fun _ hD => ?_) (fun _ hD => ?_)
      · obtain rfl := inj hD
        exact ax_Wp.thr rfl (ax_six _ rfl) ⟨rfl, rfl⟩
      · refine ax_Wp.go (f' := (35, [some (.ref 0), some (.int p0), some (.int p1), some (.int p2)], [.int (nI 24), .int (rI m 2 4)])) 5 rfl ?_
        refine ax_Wp.brD hD rfl (fun _ hD => ?_) (fun _ hD => ?_)
        · obtain rfl := inj hD
          exact ax_Wp.thr rfl (ax_six _ rfl) ⟨rfl, rfl⟩
        · refine ax_Wp.go (f' := (47, [some (.ref 0), some (.int p0), some (.int p1), some (.int p2)], [.int p1, .int p0, .ref 2])) 5 rfl ?_
          refine bnd hD (fun x7 hx hD => ?_)
          refine ax_Wp.callE (f' := (50, [some (.ref 0), some (.int p0), some (.int p1), some (.int p2)], [])) rfl rfl (w_60 (d := d + 5) hx) rfl ?_
          refine ax_Wp.go (f' := (51, [some (.ref 0), some (.int p0), some (.int p1), some (.int p2)], [.int (-1), .int x7])) 1 rfl ?_
          refine ax_Wp.brD hD rfl (fun _ hD => ?_) (fun _ hD => ?_)
          · refine ax_Wp.go (f' := (65, [some (.ref 0), some (.int p0), some (.int p1), some (.int p2)], [.ref 0])) 1 rfl ?_
            refine bnd hD (fun r8 hx hD => ?_)
            refine ax_Wp.callE (f' := (68, [some (.ref 0), some (.int p0), some (.int p1), some (.int p2)], [])) rfl rfl (w_131 (d := d + 3) hx) rfl ?_
            refine ax_Wp.go (f' := (78, [some (.ref 0), some (.int p0), some (.int p1), some (.int p2)], [.int p2, .int p1, .int p0, .ref 2])) 6 rfl ?_
            refine bnd hD (fun r9 hx hD => ?_)
            refine ax_Wp.callE (f' := (81, [some (.ref 0), some (.int p0), some (.int p1), some (.int p2)], [])) rfl rfl (w_61 (d := d + 5) hx) rfl ?_
            obtain rfl := inj hD
            exact ax_Wp.ret rfl ⟨rfl, rfl⟩
          · obtain rfl := inj hD
            exact ax_Wp.thr rfl (ax_six _ rfl) ⟨rfl, rfl⟩
    · obtain rfl := inj hD
      exact ax_Wp.callX (f' := (8, [some (.ref 0), some (.int p0), some (.int p1), some (.int p2)], [])) rfl rfl (w_123 (d := d + 0) hx) rfl ⟨rfl, rfl⟩
  · obtain rfl := inj hD
    exact ax_Wp.callX (f' := (4, [some (.ref 0), some (.int p0), some (.int p1), some (.int p2)], [])) rfl rfl (w_123 (d := d + 0) hx) rfl ⟨rfl, rfl⟩
def D51 (m : dM) (p0 : Int32) (p1 : Int32) : Option (Int32) := (D128 p0).bind fun (x1 : Int32) => if x1 = (nI 0) then some (nI 2) else (D59 m p1).bind fun (x2 : Int32) => if x2 = (nI 0) then some (nI 2) else (D44 m).bind fun (x3 : Int32) => if x3 = (nI 0) then (gI m 3 24 p1).bind fun (x4 : Int32) => (gI m 6 4 p0).bind fun (x5 : Int32) => if x4 = x5 then (D62 m p1).bind fun (x6 : Int32) => if x6 = (nI 0) then some (nI 3) else (D3 m p0).bind fun (x7 : Int32) => (D64 m p1 x7).bind fun (x8 : Int32) => Option.bind ((if x8 = (nI 0) then some (nI 4) else some (nI 0)) : Option (Int32)) fun (v9 : Int32) => some v9 else some (nI 2) else some (nI 1)
set_option maxRecDepth 20000 in
theorem w_51 {X : Nat × (Nat → Int32)} {d : Nat} {m : dM} {p0 : Int32} {p1 : Int32} {r : Int32} (hD : D51 m p0 p1 = some r) : ax_Ev X (d + 3) 41 [.ref 1, .int p0, .int p1] (stt m) (.inl (some (.int r))) (stt m) := by
  unfold D51 at hD
  show ax_Wp X (d + 2 + 1) 41 (0, [some (.ref 1), some (.int p0), some (.int p1)], []) (stt m) _
  refine ax_Wp.go (f' := (1, [some (.ref 1), some (.int p0), some (.int p1)], [.int p0])) 1 rfl ?_
  refine bnd hD (fun x1 hx hD => ?_)
  refine ax_Wp.callE (f' := (4, [some (.ref 1), some (.int p0), some (.int p1)], [])) rfl rfl (w_128 (d := d + 1) hx) rfl ?_
  refine ax_Wp.brD hD rfl (fun _ hD => ?_) (fun _ hD => ?_)
  · refine ax_Wp.go (f' := (19, [some (.ref 1), some (.int p0), some (.int p1)], [.int (nI 2)])) 1 rfl ?_
    obtain rfl := inj hD
    exact ax_Wp.ret rfl ⟨rfl, rfl⟩
  · refine ax_Wp.go (f' := (12, [some (.ref 1), some (.int p0), some (.int p1)], [.int p1, .ref 2])) 3 rfl ?_
    refine bnd hD (fun x2 hx hD => ?_)
    refine ax_Wp.callE (f' := (15, [some (.ref 1), some (.int p0), some (.int p1)], [])) rfl rfl (w_59 (d := d + 1) hx) rfl ?_
    refine ax_Wp.brD hD rfl (fun _ hD => ?_) (fun _ hD => ?_)
    · refine ax_Wp.go (f' := (19, [some (.ref 1), some (.int p0), some (.int p1)], [.int (nI 2)])) 1 rfl ?_
      obtain rfl := inj hD
      exact ax_Wp.ret rfl ⟨rfl, rfl⟩
    · refine ax_Wp.go (f' := (21, [some (.ref 1), some (.int p0), some (.int p1)], [.ref 1])) 1 rfl ?_
      refine bnd hD (fun x3 hx hD => ?_)
      refine ax_Wp.callE (f' := (24, [some (.ref 1), some (.int p0), some (.int p1)], [])) rfl rfl (w_44 (d := d + 0) hx) rfl ?_
      refine ax_Wp.brD hD rfl (fun _ hD => ?_) (fun _ hD => ?_)
      · refine ax_Wp.go (f' := (37, [some (.ref 1), some (.int p0), some (.int p1)], [.int p1, .ref 3])) 4 rfl ?_
        refine ax_Wp.rdI hD rfl rfl rfl (fun x4 hD => ?_)
        refine ax_Wp.go (f' := (46, [some (.ref 1), some (.int p0), some (.int p1)], [.int p0, .ref 6, .int x4])) 4 rfl ?_
        refine ax_Wp.rdI hD rfl rfl rfl (fun x5 hD => ?_)
        refine ax_Wp.brD hD rfl (fun _ hD => ?_) (fun _ hD => ?_)
        · refine ax_Wp.go (f' := (57, [some (.ref 1), some (.int p0), some (.int p1)], [.int p1, .ref 2])) 3 rfl ?_
          refine bnd hD (fun x6 hx hD => ?_)
          refine ax_Wp.callE (f' := (60, [some (.ref 1), some (.int p0), some (.int p1)], [])) rfl rfl (w_62 (d := d + 1) hx) rfl ?_
          refine ax_Wp.brD hD rfl (fun _ hD => ?_) (fun _ hD => ?_)
          · refine ax_Wp.go (f' := (64, [some (.ref 1), some (.int p0), some (.int p1)], [.int (nI 3)])) 1 rfl ?_
            obtain rfl := inj hD
            exact ax_Wp.ret rfl ⟨rfl, rfl⟩
          · refine ax_Wp.go (f' := (75, [some (.ref 1), some (.int p0), some (.int p1)], [.int p0, .ref 5, .int p1, .ref 2])) 6 rfl ?_
            refine bnd hD (fun x7 hx hD => ?_)
            refine ax_Wp.callE (f' := (78, [some (.ref 1), some (.int p0), some (.int p1)], [.int p1, .ref 2])) rfl rfl (w_3 (d := d + 1) hx) rfl ?_
            refine bnd hD (fun x8 hx hD => ?_)
            refine ax_Wp.callE (f' := (81, [some (.ref 1), some (.int p0), some (.int p1)], [])) rfl rfl (w_64 (d := d + 0) hx) rfl ?_
            refine bnd hD (fun v9 hx hD => ?_)
            refine ax_Wp.jn (F := (89, [some (.ref 1), none, none], [.int v9])) (hh := stt m) ?_ (fun kkv9 => ?_)
            · obtain rfl := inj hD
              exact ax_Wp.ret rfl ⟨rfl, rfl⟩
            clear hD
            have hD := hx
            clear hx
            refine ax_Wp.brD hD rfl (fun _ hD => ?_) (fun _ hD => ?_)
            · refine ax_Wp.go (f' := (89, [some (.ref 1), some (.int p0), some (.int p1)], [.int (nI 4)])) 1 rfl ?_
              obtain rfl := inj hD
              exact ax_Wp.dead kkv9 ⟨.inl rfl, ⟨.inr ⟨rfl, trivial⟩, ⟨.inr ⟨rfl, trivial⟩, trivial⟩⟩⟩
            · refine ax_Wp.go (f' := (89, [some (.ref 1), some (.int p0), some (.int p1)], [.int (nI 0)])) 2 rfl ?_
              obtain rfl := inj hD
              exact ax_Wp.dead kkv9 ⟨.inl rfl, ⟨.inr ⟨rfl, trivial⟩, ⟨.inr ⟨rfl, trivial⟩, trivial⟩⟩⟩
        · refine ax_Wp.go (f' := (51, [some (.ref 1), some (.int p0), some (.int p1)], [.int (nI 2)])) 1 rfl ?_
          obtain rfl := inj hD
          exact ax_Wp.ret rfl ⟨rfl, rfl⟩
      · refine ax_Wp.go (f' := (28, [some (.ref 1), some (.int p0), some (.int p1)], [.int (nI 1)])) 1 rfl ?_
        obtain rfl := inj hD
        exact ax_Wp.ret rfl ⟨rfl, rfl⟩
def D118 (m : dM) (p0 : Int32) (p1 : Int32) : Option (Int32 ⊕ Nat) := cT (D124 p0) m (fun (x1 : Unit) => cT (D126 m p1) m (fun (x4 : Unit) => (D51 m p0 p1).bind fun (x7 : Int32) => some (.inl x7)) (fun (j5 : Nat) (m6 : dM) => some (.inr j5))) (fun (j2 : Nat) (m3 : dM) => some (.inr j2))
set_option maxRecDepth 20000 in
theorem w_118 {X : Nat × (Nat → Int32)} {d : Nat} {m : dM} {p0 : Int32} {p1 : Int32} {r : Int32 ⊕ Nat} (hD : D118 m p0 p1 = some r) : ax_Ev X (d + 7) 96 [.ref 0, .int p0, .int p1] (stt m) (oT (fun x => some (.int x)) r) (stt (bT m r)) := by
  unfold D118 at hD
  show ax_Wp X (d + 6 + 1) 96 (0, [some (.ref 0), some (.int p0), some (.int p1)], []) (stt m) _
  refine ax_Wp.go (f' := (1, [some (.ref 0), some (.int p0), some (.int p1)], [.int p0])) 1 rfl ?_
  refine cT.sp hD (fun x1 hx hD => ?_) (fun j2 hx hD => ?_)
  · refine ax_Wp.callE (f' := (4, [some (.ref 0), some (.int p0), some (.int p1)], [])) rfl rfl (w_124 (d := d + 0) hx) rfl ?_
    refine ax_Wp.go (f' := (6, [some (.ref 0), some (.int p0), some (.int p1)], [.int p1, .ref 0])) 2 rfl ?_
    refine cT.sp hD (fun x4 hx hD => ?_) (fun j5 hx hD => ?_)
    · refine ax_Wp.callE (f' := (9, [some (.ref 0), some (.int p0), some (.int p1)], [])) rfl rfl (w_126 (d := d + 0) hx) rfl ?_
      refine ax_Wp.go (f' := (15, [some (.ref 0), some (.int p0), some (.int p1)], [.int p1, .int p0, .ref 1])) 4 rfl ?_
      refine bnd hD (fun x7 hx hD => ?_)
      refine ax_Wp.callE (f' := (18, [some (.ref 0), some (.int p0), some (.int p1)], [])) rfl rfl (w_51 (d := d + 3) hx) rfl ?_
      obtain rfl := inj hD
      exact ax_Wp.ret rfl ⟨rfl, rfl⟩
    · obtain rfl := inj hD
      exact ax_Wp.callX (f' := (9, [some (.ref 0), some (.int p0), some (.int p1)], [])) rfl rfl (w_126 (d := d + 0) hx) rfl ⟨rfl, rfl⟩
  · obtain rfl := inj hD
    exact ax_Wp.callX (f' := (4, [some (.ref 0), some (.int p0), some (.int p1)], [])) rfl rfl (w_124 (d := d + 0) hx) rfl ⟨rfl, rfl⟩
def D50 (m : dM) (p0 : Int32) (p1 : Int32) : Option (Int32 × dM) := (D128 p0).bind fun (x1 : Int32) => if x1 = (nI 0) then some ((-1), m) else (D59 m p1).bind fun (x2 : Int32) => if x2 = (nI 0) then some ((-1), m) else (sI m 7 4 p0 p1).bind fun (m3 : dM) => (gI m3 4 24 p1).bind fun (x4 : Int32) => some (x4, m3)
set_option maxRecDepth 20000 in
theorem w_50 {X : Nat × (Nat → Int32)} {d : Nat} {m : dM} {p0 : Int32} {p1 : Int32} {r : Int32 × dM} (hD : D50 m p0 p1 = some r) : ax_Ev X (d + 2) 40 [.ref 1, .int p0, .int p1] (stt m) (.inl (some (.int r.1))) (stt r.2) := by
  unfold D50 at hD
  show ax_Wp X (d + 1 + 1) 40 (0, [some (.ref 1), some (.int p0), some (.int p1)], []) (stt m) _
  refine ax_Wp.go (f' := (1, [some (.ref 1), some (.int p0), some (.int p1)], [.int p0])) 1 rfl ?_
  refine bnd hD (fun x1 hx hD => ?_)
  refine ax_Wp.callE (f' := (4, [some (.ref 1), some (.int p0), some (.int p1)], [])) rfl rfl (w_128 (d := d + 0) hx) rfl ?_
  refine ax_Wp.brD hD rfl (fun _ hD => ?_) (fun _ hD => ?_)
  · refine ax_Wp.go (f' := (19, [some (.ref 1), some (.int p0), some (.int p1)], [.int (-1)])) 1 rfl ?_
    obtain rfl := inj hD
    exact ax_Wp.ret rfl ⟨rfl, rfl⟩
  · refine ax_Wp.go (f' := (12, [some (.ref 1), some (.int p0), some (.int p1)], [.int p1, .ref 2])) 3 rfl ?_
    refine bnd hD (fun x2 hx hD => ?_)
    refine ax_Wp.callE (f' := (15, [some (.ref 1), some (.int p0), some (.int p1)], [])) rfl rfl (w_59 (d := d + 0) hx) rfl ?_
    refine ax_Wp.brD hD rfl (fun _ hD => ?_) (fun _ hD => ?_)
    · refine ax_Wp.go (f' := (19, [some (.ref 1), some (.int p0), some (.int p1)], [.int (-1)])) 1 rfl ?_
      obtain rfl := inj hD
      exact ax_Wp.ret rfl ⟨rfl, rfl⟩
    · refine ax_Wp.go (f' := (29, [some (.ref 1), some (.int p0), some (.int p1)], [.int p1, .int p0, .ref 7])) 5 rfl ?_
      refine ax_Wp.wrI hD rfl rfl (fun _ => rfl) (fun m3 hD => ?_)
      refine ax_Wp.go (f' := (38, [some (.ref 1), some (.int p0), some (.int p1)], [.int p1, .ref 4])) 4 rfl ?_
      refine ax_Wp.rdI hD rfl rfl rfl (fun x4 hD => ?_)
      obtain rfl := inj hD
      exact ax_Wp.ret rfl ⟨rfl, rfl⟩
def D77 (m : dM) (p0 : Int32) (p1 : Int32) : Option ((Int32 ⊕ Nat) × dM) := cT (D124 p0) m (fun (x1 : Unit) => cT (D126 m p1) m (fun (x4 : Unit) => (D51 m p0 p1).bind fun (x7 : Int32) => if x7 = (nI 0) then (D131 m).bind fun (r8 : dM) => (D50 r8 p0 p1).bind fun (r9 : Int32 × dM) => some (.inl r9.1, r9.2) else some (.inr 2, (bump m))) (fun (j5 : Nat) (m6 : dM) => some (.inr j5, m6))) (fun (j2 : Nat) (m3 : dM) => some (.inr j2, m3))
set_option maxRecDepth 20000 in
theorem w_77 {X : Nat × (Nat → Int32)} {d : Nat} {m : dM} {p0 : Int32} {p1 : Int32} {r : (Int32 ⊕ Nat) × dM} (hD : D77 m p0 p1 = some r) : ax_Ev X (d + 7) 64 [.ref 0, .int p0, .int p1] (stt m) (oT (fun x => some (.int x)) r.1) (stt r.2) := by
  unfold D77 at hD
  show ax_Wp X (d + 6 + 1) 64 (0, [some (.ref 0), some (.int p0), some (.int p1)], []) (stt m) _
  refine ax_Wp.go (f' := (1, [some (.ref 0), some (.int p0), some (.int p1)], [.int p0])) 1 rfl ?_
  refine cT.sp hD (fun x1 hx hD => ?_) (fun j2 hx hD => ?_)
  · refine ax_Wp.callE (f' := (4, [some (.ref 0), some (.int p0), some (.int p1)], [])) rfl rfl (w_124 (d := d + 0) hx) rfl ?_
    refine ax_Wp.go (f' := (6, [some (.ref 0), some (.int p0), some (.int p1)], [.int p1, .ref 0])) 2 rfl ?_
    refine cT.sp hD (fun x4 hx hD => ?_) (fun j5 hx hD => ?_)
    · refine ax_Wp.callE (f' := (9, [some (.ref 0), some (.int p0), some (.int p1)], [])) rfl rfl (w_126 (d := d + 0) hx) rfl ?_
      refine ax_Wp.go (f' := (15, [some (.ref 0), some (.int p0), some (.int p1)], [.int p1, .int p0, .ref 1])) 4 rfl ?_
      refine bnd hD (fun x7 hx hD => ?_)
      refine ax_Wp.callE (f' := (18, [some (.ref 0), some (.int p0), some (.int p1)], [])) rfl rfl (w_51 (d := d + 3) hx) rfl ?_
      refine ax_Wp.brD hD rfl (fun _ hD => ?_) (fun _ hD => ?_)
      · refine ax_Wp.go (f' := (32, [some (.ref 0), some (.int p0), some (.int p1)], [.ref 0])) 1 rfl ?_
        refine bnd hD (fun r8 hx hD => ?_)
        refine ax_Wp.callE (f' := (35, [some (.ref 0), some (.int p0), some (.int p1)], [])) rfl rfl (w_131 (d := d + 3) hx) rfl ?_
        refine ax_Wp.go (f' := (41, [some (.ref 0), some (.int p0), some (.int p1)], [.int p1, .int p0, .ref 1])) 4 rfl ?_
        refine bnd hD (fun r9 hx hD => ?_)
        refine ax_Wp.callE (f' := (44, [some (.ref 0), some (.int p0), some (.int p1)], [])) rfl rfl (w_50 (d := d + 4) hx) rfl ?_
        obtain rfl := inj hD
        exact ax_Wp.ret rfl ⟨rfl, rfl⟩
      · obtain rfl := inj hD
        exact ax_Wp.thr rfl (ax_six _ rfl) ⟨rfl, rfl⟩
    · obtain rfl := inj hD
      exact ax_Wp.callX (f' := (9, [some (.ref 0), some (.int p0), some (.int p1)], [])) rfl rfl (w_126 (d := d + 0) hx) rfl ⟨rfl, rfl⟩
  · obtain rfl := inj hD
    exact ax_Wp.callX (f' := (4, [some (.ref 0), some (.int p0), some (.int p1)], [])) rfl rfl (w_124 (d := d + 0) hx) rfl ⟨rfl, rfl⟩
def D110 (m : dM) : Option (Int32) := (D42 m).bind fun (x1 : Int64) => (D24 m x1).bind fun (x2 : Int32) => some x2
set_option maxRecDepth 20000 in
theorem w_110 {X : Nat × (Nat → Int32)} {d : Nat} {m : dM} {r : Int32} (hD : D110 m = some r) : ax_Ev X (d + 2) 89 [.ref 0] (stt m) (.inl (some (.int r))) (stt m) := by
  unfold D110 at hD
  show ax_Wp X (d + 1 + 1) 89 (0, [some (.ref 0)], []) (stt m) _
  refine ax_Wp.go (f' := (11, [some (.ref 0)], [.ref 1, .ref 15])) 5 rfl ?_
  refine bnd hD (fun x1 hx hD => ?_)
  refine ax_Wp.callE (f' := (14, [some (.ref 0)], [.ref 15])) rfl rfl (w_42 (d := d + 0) hx) rfl ?_
  refine bnd hD (fun x2 hx hD => ?_)
  refine ax_Wp.callE (f' := (17, [some (.ref 0)], [])) rfl rfl (w_24 (d := d + 0) hx) rfl ?_
  obtain rfl := inj hD
  exact ax_Wp.ret rfl ⟨rfl, rfl⟩
def D125 (p0 : Int32) : Option (Unit ⊕ Nat) := if p0 < (nI 0) then some (.inr 0) else if p0 < (nI 2) then some (.inl ()) else some (.inr 0)
set_option maxRecDepth 20000 in
theorem w_125 {X : Nat × (Nat → Int32)} {d : Nat} {m : dM} {p0 : Int32} {r : Unit ⊕ Nat} (hD : D125 p0 = some r) : ax_Ev X (d + 6) 102 [.int p0] (stt m) (oT (fun (_ : Unit) => none) r) (stt (bT m r)) := by
  unfold D125 at hD
  show ax_Wp X (d + 5 + 1) 102 (0, [some (.int p0)], []) (stt m) _
  refine ax_Wp.go (f' := (1, [some (.int p0)], [.int p0])) 1 rfl ?_
  refine ax_Wp.brD hD rfl (fun _ hD => ?_) (fun _ hD => ?_)
  · obtain rfl := inj hD
    exact ax_Wp.thr rfl (ax_six _ rfl) ⟨rfl, rfl⟩
  · refine ax_Wp.go (f' := (6, [some (.int p0)], [.int (nI 2), .int p0])) 2 rfl ?_
    refine ax_Wp.brD hD rfl (fun _ hD => ?_) (fun _ hD => ?_)
    · obtain rfl := inj hD
      exact ax_Wp.ret rfl ⟨rfl, rfl⟩
    · obtain rfl := inj hD
      exact ax_Wp.thr rfl (ax_six _ rfl) ⟨rfl, rfl⟩
def D36 (m : dM) (p0 : Int32) : Option (Int32) := Option.bind (lp (β := Int32) 3000 (fun (s1 : Int32 × Int32) => if (rI m 10 4) ≤ s1.2 then some (.inr s1.1) else (gI m 14 8 s1.2).bind fun (x3 : Int32) => Option.bind ((if x3 < (nI 14) then some s1.1 else (gI m 14 8 s1.2).bind fun (x5 : Int32) => (D130 (x5 - (nI 14))).bind fun (x6 : Int32) => if x6 = p0 then (gI m 13 8 s1.2).bind fun (x7 : Int32) => some (s1.1 + x7) else some s1.1) : Option (Int32)) fun (v4 : Int32) => some (.inl (v4, s1.2 + (nI 1)))) (nI 0, nI 0)) fun (v2 : Int32) => some v2
set_option maxRecDepth 20000 in
theorem w_36 {X : Nat × (Nat → Int32)} {d : Nat} {m : dM} {p0 : Int32} {r : Int32} (hD : D36 m p0 = some r) : ax_Ev X (d + 2) 26 [.ref 10, .int p0] (stt m) (.inl (some (.int r))) (stt m) := by
  unfold D36 at hD
  show ax_Wp X (d + 1 + 1) 26 (0, [some (.ref 10), some (.int p0), none, none], []) (stt m) _
  refine ax_Wp.go (f' := (4, [some (.ref 10), some (.int p0), some (.int (nI 0)), some (.int (nI 0))], [])) 4 rfl ?_
  refine bnd hD (fun v2 hx hD => ?_)
  refine ax_Wp.jn (F := (54, [some (.ref 10), none, some (.int v2), none], [])) (hh := stt m) ?_ (fun kkv2 => ?_)
  · refine ax_Wp.go (f' := (55, [some (.ref 10), none, some (.int v2), none], [.int v2])) 1 rfl ?_
    obtain rfl := inj hD
    exact ax_Wp.ret rfl ⟨rfl, rfl⟩
  clear hD
  refine ax_Wp.lpD (fun (s1 : Int32 × Int32) => ((4, [some (.ref 10), some (.int p0), some (.int s1.1), some (.int s1.2)], []), stt m)) ?_ hx
  clear hx
  intro s1 v hD ks1
  refine ax_Wp.go (f' := (9, [some (.ref 10), some (.int p0), some (.int s1.1), some (.int s1.2)], [.int (rI m 10 4), .int s1.2])) 3 rfl ?_
  refine ax_Wp.brD hD rfl (fun _ hD => ?_) (fun _ hD => ?_)
  · obtain rfl := inj hD
    obtain rfl := ks1.o
    exact ax_Wp.dead kkv2 ⟨.inl rfl, ⟨.inr ⟨rfl, trivial⟩, ⟨.inl rfl, ⟨.inr ⟨rfl, trivial⟩, trivial⟩⟩⟩⟩
  · refine ax_Wp.go (f' := (17, [some (.ref 10), some (.int p0), some (.int s1.1), some (.int s1.2)], [.int s1.2, .ref 14])) 3 rfl ?_
    refine ax_Wp.rdI hD rfl rfl rfl (fun x3 hD => ?_)
    refine ax_Wp.go (f' := (20, [some (.ref 10), some (.int p0), some (.int s1.1), some (.int s1.2)], [.int (nI 14), .int x3])) 1 rfl ?_
    refine bnd hD (fun v4 hx hD => ?_)
    refine ax_Wp.jn (F := (48, [some (.ref 10), some (.int p0), some (.int v4), some (.int s1.2)], [])) (hh := stt m) ?_ (fun kkv4 => ?_)
    · refine ax_Wp.go (f' := (4, [some (.ref 10), some (.int p0), some (.int v4), some (.int (s1.2 + (nI 1)))], [])) 2 rfl ?_
      obtain rfl := inj hD
      exact ks1.i
    clear hD
    have hD := hx
    clear hx
    refine ax_Wp.brD hD rfl (fun _ hD => ?_) (fun _ hD => ?_)
    · obtain rfl := inj hD
      exact kkv4
    · refine ax_Wp.go (f' := (28, [some (.ref 10), some (.int p0), some (.int s1.1), some (.int s1.2)], [.int s1.2, .ref 14])) 3 rfl ?_
      refine ax_Wp.rdI hD rfl rfl rfl (fun x5 hD => ?_)
      refine ax_Wp.go (f' := (32, [some (.ref 10), some (.int p0), some (.int s1.1), some (.int s1.2)], [.int (x5 - (nI 14))])) 2 rfl ?_
      refine bnd hD (fun x6 hx hD => ?_)
      refine ax_Wp.callE (f' := (35, [some (.ref 10), some (.int p0), some (.int s1.1), some (.int s1.2)], [])) rfl rfl (w_130 (d := d + 0) hx) rfl ?_
      refine ax_Wp.go (f' := (36, [some (.ref 10), some (.int p0), some (.int s1.1), some (.int s1.2)], [.int p0, .int x6])) 1 rfl ?_
      refine ax_Wp.brD hD rfl (fun _ hD => ?_) (fun _ hD => ?_)
      · refine ax_Wp.go (f' := (45, [some (.ref 10), some (.int p0), some (.int s1.1), some (.int s1.2)], [.int s1.2, .ref 13, .int s1.1])) 4 rfl ?_
        refine ax_Wp.rdI hD rfl rfl rfl (fun x7 hD => ?_)
        refine ax_Wp.go (f' := (48, [some (.ref 10), some (.int p0), some (.int (s1.1 + x7)), some (.int s1.2)], [])) 2 rfl ?_
        obtain rfl := inj hD
        exact kkv4
      · obtain rfl := inj hD
        exact kkv4
def D107 (m : dM) (p0 : Int32) : Option (Int32 ⊕ Nat) := cT (D125 p0) m (fun (x1 : Unit) => (D36 m p0).bind fun (x4 : Int32) => some (.inl x4)) (fun (j2 : Nat) (m3 : dM) => some (.inr j2))
set_option maxRecDepth 20000 in
theorem w_107 {X : Nat × (Nat → Int32)} {d : Nat} {m : dM} {p0 : Int32} {r : Int32 ⊕ Nat} (hD : D107 m p0 = some r) : ax_Ev X (d + 7) 86 [.ref 0, .int p0] (stt m) (oT (fun x => some (.int x)) r) (stt (bT m r)) := by
  unfold D107 at hD
  show ax_Wp X (d + 6 + 1) 86 (0, [some (.ref 0), some (.int p0)], []) (stt m) _
  refine ax_Wp.go (f' := (1, [some (.ref 0), some (.int p0)], [.int p0])) 1 rfl ?_
  refine cT.sp hD (fun x1 hx hD => ?_) (fun j2 hx hD => ?_)
  · refine ax_Wp.callE (f' := (4, [some (.ref 0), some (.int p0)], [])) rfl rfl (w_125 (d := d + 0) hx) rfl ?_
    refine ax_Wp.go (f' := (12, [some (.ref 0), some (.int p0)], [.int p0, .ref 10])) 4 rfl ?_
    refine bnd hD (fun x4 hx hD => ?_)
    refine ax_Wp.callE (f' := (15, [some (.ref 0), some (.int p0)], [])) rfl rfl (w_36 (d := d + 4) hx) rfl ?_
    obtain rfl := inj hD
    exact ax_Wp.ret rfl ⟨rfl, rfl⟩
  · obtain rfl := inj hD
    exact ax_Wp.callX (f' := (4, [some (.ref 0), some (.int p0)], [])) rfl rfl (w_125 (d := d + 0) hx) rfl ⟨rfl, rfl⟩
def D106 (m : dM) (p0 : Int32) : Option (Int32 ⊕ Nat) := cT (D125 p0) m (fun (x1 : Unit) => (gI m 17 2 p0).bind fun (x4 : Int32) => some (.inl x4)) (fun (j2 : Nat) (m3 : dM) => some (.inr j2))
set_option maxRecDepth 20000 in
theorem w_106 {X : Nat × (Nat → Int32)} {d : Nat} {m : dM} {p0 : Int32} {r : Int32 ⊕ Nat} (hD : D106 m p0 = some r) : ax_Ev X (d + 7) 85 [.ref 0, .int p0] (stt m) (oT (fun x => some (.int x)) r) (stt (bT m r)) := by
  unfold D106 at hD
  show ax_Wp X (d + 6 + 1) 85 (0, [some (.ref 0), some (.int p0)], []) (stt m) _
  refine ax_Wp.go (f' := (1, [some (.ref 0), some (.int p0)], [.int p0])) 1 rfl ?_
  refine cT.sp hD (fun x1 hx hD => ?_) (fun j2 hx hD => ?_)
  · refine ax_Wp.callE (f' := (4, [some (.ref 0), some (.int p0)], [])) rfl rfl (w_125 (d := d + 0) hx) rfl ?_
    refine ax_Wp.go (f' := (12, [some (.ref 0), some (.int p0)], [.int p0, .ref 17])) 4 rfl ?_
    refine ax_Wp.rdI hD rfl rfl rfl (fun x4 hD => ?_)
    obtain rfl := inj hD
    exact ax_Wp.ret rfl ⟨rfl, rfl⟩
  · obtain rfl := inj hD
    exact ax_Wp.callX (f' := (4, [some (.ref 0), some (.int p0)], [])) rfl rfl (w_125 (d := d + 0) hx) rfl ⟨rfl, rfl⟩
def D26 (m : dM) (p0 : Int32) : Option (Int32) := lp (β := Int32) 3000 (fun (s1 : Int32) => if p0 ≤ s1 then some (.inr (nI 0)) else if (rI m 15 1) ≤ p0 then some (.inr (nI 0)) else (gL m 16 61 s1).bind fun (x2 : Int64) => (gL m 16 61 p0).bind fun (x3 : Int64) => if (lg_cmp x2 x3) = (nI 0) then some (.inr (nI 1)) else some (.inl (s1 + (nI 1)))) (nI 0)
set_option maxRecDepth 20000 in
theorem w_26 {X : Nat × (Nat → Int32)} {d : Nat} {m : dM} {p0 : Int32} {r : Int32} (hD : D26 m p0 = some r) : ax_Ev X (d + 1) 16 [.ref 15, .int p0] (stt m) (.inl (some (.int r))) (stt m) := by
  unfold D26 at hD
  show ax_Wp X (d + 0 + 1) 16 (0, [some (.ref 15), some (.int p0), none], []) (stt m) _
  refine ax_Wp.go (f' := (2, [some (.ref 15), some (.int p0), some (.int (nI 0))], [])) 2 rfl ?_
  refine ax_Wp.lpD (fun (s1 : Int32) => ((2, [some (.ref 15), some (.int p0), some (.int s1)], []), stt m)) ?_ hD
  clear hD
  intro s1 v hD ks1
  refine ax_Wp.go (f' := (4, [some (.ref 15), some (.int p0), some (.int s1)], [.int p0, .int s1])) 2 rfl ?_
  refine ax_Wp.brD hD rfl (fun _ hD => ?_) (fun _ hD => ?_)
  · refine ax_Wp.go (f' := (40, [some (.ref 15), some (.int p0), some (.int s1)], [.int (nI 0)])) 1 rfl ?_
    obtain rfl := inj hD
    obtain rfl := ks1.o
    exact ax_Wp.ret rfl ⟨rfl, rfl⟩
  · refine ax_Wp.go (f' := (12, [some (.ref 15), some (.int p0), some (.int s1)], [.int (rI m 15 1), .int p0])) 3 rfl ?_
    refine ax_Wp.brD hD rfl (fun _ hD => ?_) (fun _ hD => ?_)
    · refine ax_Wp.go (f' := (40, [some (.ref 15), some (.int p0), some (.int s1)], [.int (nI 0)])) 1 rfl ?_
      obtain rfl := inj hD
      obtain rfl := ks1.o
      exact ax_Wp.ret rfl ⟨rfl, rfl⟩
    · refine ax_Wp.go (f' := (20, [some (.ref 15), some (.int p0), some (.int s1)], [.int s1, .ref 16])) 3 rfl ?_
      refine ax_Wp.rdL hD rfl rfl rfl (fun x2 hD => ?_)
      refine ax_Wp.go (f' := (26, [some (.ref 15), some (.int p0), some (.int s1)], [.int p0, .ref 16, .long x2])) 3 rfl ?_
      refine ax_Wp.rdL hD rfl rfl rfl (fun x3 hD => ?_)
      refine ax_Wp.go (f' := (28, [some (.ref 15), some (.int p0), some (.int s1)], [.int (lg_cmp x2 x3)])) 1 rfl ?_
      refine ax_Wp.brD hD rfl (fun _ hD => ?_) (fun _ hD => ?_)
      · refine ax_Wp.go (f' := (32, [some (.ref 15), some (.int p0), some (.int s1)], [.int (nI 1)])) 1 rfl ?_
        obtain rfl := inj hD
        obtain rfl := ks1.o
        exact ax_Wp.ret rfl ⟨rfl, rfl⟩
      · refine ax_Wp.go (f' := (2, [some (.ref 15), some (.int p0), some (.int (s1 + (nI 1)))], [])) 2 rfl ?_
        obtain rfl := inj hD
        exact ks1.i
def D25 (m : dM) : Option (Int32) := Option.bind (lp (β := Int32) 3000 (fun (s1 : Int32 × Int32) => if (rI m 15 1) ≤ s1.2 then some (.inr s1.1) else (D26 m s1.2).bind fun (x3 : Int32) => Option.bind ((if x3 = (nI 0) then some (s1.1 + (nI 1)) else some s1.1) : Option (Int32)) fun (v4 : Int32) => some (.inl (v4, s1.2 + (nI 1)))) (nI 0, nI 0)) fun (v2 : Int32) => some v2
set_option maxRecDepth 20000 in
theorem w_25 {X : Nat × (Nat → Int32)} {d : Nat} {m : dM} {r : Int32} (hD : D25 m = some r) : ax_Ev X (d + 2) 15 [.ref 15] (stt m) (.inl (some (.int r))) (stt m) := by
  unfold D25 at hD
  show ax_Wp X (d + 1 + 1) 15 (0, [some (.ref 15), none, none], []) (stt m) _
  refine ax_Wp.go (f' := (4, [some (.ref 15), some (.int (nI 0)), some (.int (nI 0))], [])) 4 rfl ?_
  refine bnd hD (fun v2 hx hD => ?_)
  refine ax_Wp.jn (F := (29, [some (.ref 15), some (.int v2), none], [])) (hh := stt m) ?_ (fun kkv2 => ?_)
  · refine ax_Wp.go (f' := (30, [some (.ref 15), some (.int v2), none], [.int v2])) 1 rfl ?_
    obtain rfl := inj hD
    exact ax_Wp.ret rfl ⟨rfl, rfl⟩
  clear hD
  refine ax_Wp.lpD (fun (s1 : Int32 × Int32) => ((4, [some (.ref 15), some (.int s1.1), some (.int s1.2)], []), stt m)) ?_ hx
  clear hx
  intro s1 v hD ks1
  refine ax_Wp.go (f' := (9, [some (.ref 15), some (.int s1.1), some (.int s1.2)], [.int (rI m 15 1), .int s1.2])) 3 rfl ?_
  refine ax_Wp.brD hD rfl (fun _ hD => ?_) (fun _ hD => ?_)
  · obtain rfl := inj hD
    obtain rfl := ks1.o
    exact ax_Wp.dead kkv2 ⟨.inl rfl, ⟨.inl rfl, ⟨.inr ⟨rfl, trivial⟩, trivial⟩⟩⟩
  · refine ax_Wp.go (f' := (14, [some (.ref 15), some (.int s1.1), some (.int s1.2)], [.int s1.2, .ref 15])) 2 rfl ?_
    refine bnd hD (fun x3 hx hD => ?_)
    refine ax_Wp.callE (f' := (17, [some (.ref 15), some (.int s1.1), some (.int s1.2)], [])) rfl rfl (w_26 (d := d + 0) hx) rfl ?_
    refine bnd hD (fun v4 hx hD => ?_)
    refine ax_Wp.jn (F := (23, [some (.ref 15), some (.int v4), some (.int s1.2)], [])) (hh := stt m) ?_ (fun kkv4 => ?_)
    · refine ax_Wp.go (f' := (4, [some (.ref 15), some (.int v4), some (.int (s1.2 + (nI 1)))], [])) 2 rfl ?_
      obtain rfl := inj hD
      exact ks1.i
    clear hD
    have hD := hx
    clear hx
    refine ax_Wp.brD hD rfl (fun _ hD => ?_) (fun _ hD => ?_)
    · refine ax_Wp.go (f' := (23, [some (.ref 15), some (.int (s1.1 + (nI 1))), some (.int s1.2)], [])) 1 rfl ?_
      obtain rfl := inj hD
      exact kkv4
    · obtain rfl := inj hD
      exact kkv4
def D111 (m : dM) : Option (Int32) := (D25 m).bind fun (x1 : Int32) => some x1
set_option maxRecDepth 20000 in
theorem w_111 {X : Nat × (Nat → Int32)} {d : Nat} {m : dM} {r : Int32} (hD : D111 m = some r) : ax_Ev X (d + 3) 90 [.ref 0] (stt m) (.inl (some (.int r))) (stt m) := by
  unfold D111 at hD
  show ax_Wp X (d + 2 + 1) 90 (0, [some (.ref 0)], []) (stt m) _
  refine ax_Wp.go (f' := (7, [some (.ref 0)], [.ref 15])) 3 rfl ?_
  refine bnd hD (fun x1 hx hD => ?_)
  refine ax_Wp.callE (f' := (10, [some (.ref 0)], [])) rfl rfl (w_25 (d := d + 0) hx) rfl ?_
  obtain rfl := inj hD
  exact ax_Wp.ret rfl ⟨rfl, rfl⟩
def D121 (m : dM) : Option (UInt64) := if (nI 0) < (rI m 10 4) then (D35 m).bind fun (x1 : Int32) => (gD (FP.ddiv (FP.i2d x1) (FP.i2d (rI m 10 4)))).bind fun (x2 : UInt64) => some x2 else some FP.dconst0
set_option maxRecDepth 20000 in
theorem w_121 {X : Nat × (Nat → Int32)} {d : Nat} {m : dM} {r : UInt64} (hD : D121 m = some r) : ax_Ev X (d + 2) 99 [.ref 0] (stt m) (.inl (some (.double r))) (stt m) := by
  unfold D121 at hD
  show ax_Wp X (d + 1 + 1) 99 (0, [some (.ref 0), none], []) (stt m) _
  refine ax_Wp.go (f' := (12, [some (.ref 0), some (.int (rI m 10 4))], [.int (rI m 10 4)])) 6 rfl ?_
  refine ax_Wp.brD hD rfl (fun _ hD => ?_) (fun _ hD => ?_)
  · refine ax_Wp.go (f' := (24, [some (.ref 0), some (.int (rI m 10 4))], [.ref 10])) 3 rfl ?_
    refine bnd hD (fun x1 hx hD => ?_)
    refine ax_Wp.callE (f' := (27, [some (.ref 0), some (.int (rI m 10 4))], [])) rfl rfl (w_35 (d := d + 0) hx) rfl ?_
    refine ax_Wp.go (f' := (30, [some (.ref 0), some (.int (rI m 10 4))], [.double (FP.i2d (rI m 10 4)), .double (FP.i2d x1)])) 3 rfl ?_
    refine ax_Wp.flD hD rfl (fun x2 hD => ?_)
    obtain rfl := inj hD
    exact ax_Wp.ret rfl ⟨rfl, rfl⟩
  · refine ax_Wp.go (f' := (16, [some (.ref 0), some (.int (rI m 10 4))], [.double FP.dconst0])) 1 rfl ?_
    obtain rfl := inj hD
    exact ax_Wp.ret rfl ⟨rfl, rfl⟩
def D127 (m : dM) (p0 : Int32) : Option (Unit ⊕ Nat) := (D29 m p0).bind fun (x1 : Int32) => if x1 = (nI 0) then some (.inr 0) else some (.inl ())
set_option maxRecDepth 20000 in
theorem w_127 {X : Nat × (Nat → Int32)} {d : Nat} {m : dM} {p0 : Int32} {r : Unit ⊕ Nat} (hD : D127 m p0 = some r) : ax_Ev X (d + 6) 104 [.ref 0, .int p0] (stt m) (oT (fun (_ : Unit) => none) r) (stt (bT m r)) := by
  unfold D127 at hD
  show ax_Wp X (d + 5 + 1) 104 (0, [some (.ref 0), some (.int p0)], []) (stt m) _
  refine ax_Wp.go (f' := (8, [some (.ref 0), some (.int p0)], [.int p0, .ref 10])) 4 rfl ?_
  refine bnd hD (fun x1 hx hD => ?_)
  refine ax_Wp.callE (f' := (11, [some (.ref 0), some (.int p0)], [])) rfl rfl (w_29 (d := d + 4) hx) rfl ?_
  refine ax_Wp.brD hD rfl (fun _ hD => ?_) (fun _ hD => ?_)
  · obtain rfl := inj hD
    exact ax_Wp.thr rfl (ax_six _ rfl) ⟨rfl, rfl⟩
  · obtain rfl := inj hD
    exact ax_Wp.ret rfl ⟨rfl, rfl⟩
def D31 (m : dM) (p0 : Int32) : Option (Int32) := (D29 m p0).bind fun (x1 : Int32) => Option.bind ((if x1 = (nI 0) then some (nI 0) else (gI m 14 8 p0).bind fun (x3 : Int32) => if (nI 10) ≤ x3 then some (nI 0) else some (nI 1)) : Option (Int32)) fun (v2 : Int32) => (gB v2).bind fun (b4 : Int32) => some b4
set_option maxRecDepth 20000 in
theorem w_31 {X : Nat × (Nat → Int32)} {d : Nat} {m : dM} {p0 : Int32} {r : Int32} (hD : D31 m p0 = some r) : ax_Ev X (d + 2) 21 [.ref 10, .int p0] (stt m) (.inl (some (.int r))) (stt m) := by
  unfold D31 at hD
  show ax_Wp X (d + 1 + 1) 21 (0, [some (.ref 10), some (.int p0)], []) (stt m) _
  refine ax_Wp.go (f' := (2, [some (.ref 10), some (.int p0)], [.int p0, .ref 10])) 2 rfl ?_
  refine bnd hD (fun x1 hx hD => ?_)
  refine ax_Wp.callE (f' := (5, [some (.ref 10), some (.int p0)], [])) rfl rfl (w_29 (d := d + 0) hx) rfl ?_
  refine bnd hD (fun v2 hx hD => ?_)
  refine ax_Wp.jn (F := (24, [some (.ref 10), none], [.int v2])) (hh := stt m) ?_ (fun kkv2 => ?_)
  · refine ax_Wp.retB hD rfl (fun b4 hD => ?_)
    obtain rfl := inj hD
    exact ⟨rfl, rfl⟩
  clear hD
  have hD := hx
  clear hx
  refine ax_Wp.brD hD rfl (fun _ hD => ?_) (fun _ hD => ?_)
  · refine ax_Wp.go (f' := (24, [some (.ref 10), some (.int p0)], [.int (nI 0)])) 1 rfl ?_
    obtain rfl := inj hD
    exact ax_Wp.dead kkv2 ⟨.inl rfl, ⟨.inr ⟨rfl, trivial⟩, trivial⟩⟩
  · refine ax_Wp.go (f' := (13, [some (.ref 10), some (.int p0)], [.int p0, .ref 14])) 3 rfl ?_
    refine ax_Wp.rdI hD rfl rfl rfl (fun x3 hD => ?_)
    refine ax_Wp.go (f' := (16, [some (.ref 10), some (.int p0)], [.int (nI 10), .int x3])) 1 rfl ?_
    refine ax_Wp.brD hD rfl (fun _ hD => ?_) (fun _ hD => ?_)
    · refine ax_Wp.go (f' := (24, [some (.ref 10), some (.int p0)], [.int (nI 0)])) 1 rfl ?_
      obtain rfl := inj hD
      exact ax_Wp.dead kkv2 ⟨.inl rfl, ⟨.inr ⟨rfl, trivial⟩, trivial⟩⟩
    · refine ax_Wp.go (f' := (24, [some (.ref 10), some (.int p0)], [.int (nI 1)])) 2 rfl ?_
      obtain rfl := inj hD
      exact ax_Wp.dead kkv2 ⟨.inl rfl, ⟨.inr ⟨rfl, trivial⟩, trivial⟩⟩
def D102 (m : dM) (p0 : Int32) : Option (Int32 ⊕ Nat) := cT (D127 m p0) m (fun (x1 : Unit) => (D31 m p0).bind fun (x4 : Int32) => (gB x4).bind fun (b5 : Int32) => some (.inl b5)) (fun (j2 : Nat) (m3 : dM) => some (.inr j2))
set_option maxRecDepth 20000 in
theorem w_102 {X : Nat × (Nat → Int32)} {d : Nat} {m : dM} {p0 : Int32} {r : Int32 ⊕ Nat} (hD : D102 m p0 = some r) : ax_Ev X (d + 7) 81 [.ref 0, .int p0] (stt m) (oT (fun x => some (.int x)) r) (stt (bT m r)) := by
  unfold D102 at hD
  show ax_Wp X (d + 6 + 1) 81 (0, [some (.ref 0), some (.int p0)], []) (stt m) _
  refine ax_Wp.go (f' := (2, [some (.ref 0), some (.int p0)], [.int p0, .ref 0])) 2 rfl ?_
  refine cT.sp hD (fun x1 hx hD => ?_) (fun j2 hx hD => ?_)
  · refine ax_Wp.callE (f' := (5, [some (.ref 0), some (.int p0)], [])) rfl rfl (w_127 (d := d + 0) hx) rfl ?_
    refine ax_Wp.go (f' := (13, [some (.ref 0), some (.int p0)], [.int p0, .ref 10])) 4 rfl ?_
    refine bnd hD (fun x4 hx hD => ?_)
    refine ax_Wp.callE (f' := (16, [some (.ref 0), some (.int p0)], [])) rfl rfl (w_31 (d := d + 4) hx) rfl ?_
    refine ax_Wp.retB hD rfl (fun b5 hD => ?_)
    obtain rfl := inj hD
    exact ⟨rfl, rfl⟩
  · obtain rfl := inj hD
    exact ax_Wp.callX (f' := (5, [some (.ref 0), some (.int p0)], [])) rfl rfl (w_127 (d := d + 0) hx) rfl ⟨rfl, rfl⟩
def D32 (m : dM) (p0 : Int32) : Option (Int32) := (D29 m p0).bind fun (x1 : Int32) => Option.bind ((if x1 = (nI 0) then some (nI 0) else (gI m 14 8 p0).bind fun (x3 : Int32) => if x3 < (nI 14) then some (nI 0) else some (nI 1)) : Option (Int32)) fun (v2 : Int32) => (gB v2).bind fun (b4 : Int32) => some b4
set_option maxRecDepth 20000 in
theorem w_32 {X : Nat × (Nat → Int32)} {d : Nat} {m : dM} {p0 : Int32} {r : Int32} (hD : D32 m p0 = some r) : ax_Ev X (d + 2) 22 [.ref 10, .int p0] (stt m) (.inl (some (.int r))) (stt m) := by
  unfold D32 at hD
  show ax_Wp X (d + 1 + 1) 22 (0, [some (.ref 10), some (.int p0)], []) (stt m) _
  refine ax_Wp.go (f' := (2, [some (.ref 10), some (.int p0)], [.int p0, .ref 10])) 2 rfl ?_
  refine bnd hD (fun x1 hx hD => ?_)
  refine ax_Wp.callE (f' := (5, [some (.ref 10), some (.int p0)], [])) rfl rfl (w_29 (d := d + 0) hx) rfl ?_
  refine bnd hD (fun v2 hx hD => ?_)
  refine ax_Wp.jn (F := (24, [some (.ref 10), none], [.int v2])) (hh := stt m) ?_ (fun kkv2 => ?_)
  · refine ax_Wp.retB hD rfl (fun b4 hD => ?_)
    obtain rfl := inj hD
    exact ⟨rfl, rfl⟩
  clear hD
  have hD := hx
  clear hx
  refine ax_Wp.brD hD rfl (fun _ hD => ?_) (fun _ hD => ?_)
  · refine ax_Wp.go (f' := (24, [some (.ref 10), some (.int p0)], [.int (nI 0)])) 1 rfl ?_
    obtain rfl := inj hD
    exact ax_Wp.dead kkv2 ⟨.inl rfl, ⟨.inr ⟨rfl, trivial⟩, trivial⟩⟩
  · refine ax_Wp.go (f' := (13, [some (.ref 10), some (.int p0)], [.int p0, .ref 14])) 3 rfl ?_
    refine ax_Wp.rdI hD rfl rfl rfl (fun x3 hD => ?_)
    refine ax_Wp.go (f' := (16, [some (.ref 10), some (.int p0)], [.int (nI 14), .int x3])) 1 rfl ?_
    refine ax_Wp.brD hD rfl (fun _ hD => ?_) (fun _ hD => ?_)
    · refine ax_Wp.go (f' := (24, [some (.ref 10), some (.int p0)], [.int (nI 0)])) 1 rfl ?_
      obtain rfl := inj hD
      exact ax_Wp.dead kkv2 ⟨.inl rfl, ⟨.inr ⟨rfl, trivial⟩, trivial⟩⟩
    · refine ax_Wp.go (f' := (24, [some (.ref 10), some (.int p0)], [.int (nI 1)])) 2 rfl ?_
      obtain rfl := inj hD
      exact ax_Wp.dead kkv2 ⟨.inl rfl, ⟨.inr ⟨rfl, trivial⟩, trivial⟩⟩
def D103 (m : dM) (p0 : Int32) : Option (Int32 ⊕ Nat) := cT (D127 m p0) m (fun (x1 : Unit) => (D32 m p0).bind fun (x4 : Int32) => (gB x4).bind fun (b5 : Int32) => some (.inl b5)) (fun (j2 : Nat) (m3 : dM) => some (.inr j2))
set_option maxRecDepth 20000 in
theorem w_103 {X : Nat × (Nat → Int32)} {d : Nat} {m : dM} {p0 : Int32} {r : Int32 ⊕ Nat} (hD : D103 m p0 = some r) : ax_Ev X (d + 7) 82 [.ref 0, .int p0] (stt m) (oT (fun x => some (.int x)) r) (stt (bT m r)) := by
  unfold D103 at hD
  show ax_Wp X (d + 6 + 1) 82 (0, [some (.ref 0), some (.int p0)], []) (stt m) _
  refine ax_Wp.go (f' := (2, [some (.ref 0), some (.int p0)], [.int p0, .ref 0])) 2 rfl ?_
  refine cT.sp hD (fun x1 hx hD => ?_) (fun j2 hx hD => ?_)
  · refine ax_Wp.callE (f' := (5, [some (.ref 0), some (.int p0)], [])) rfl rfl (w_127 (d := d + 0) hx) rfl ?_
    refine ax_Wp.go (f' := (13, [some (.ref 0), some (.int p0)], [.int p0, .ref 10])) 4 rfl ?_
    refine bnd hD (fun x4 hx hD => ?_)
    refine ax_Wp.callE (f' := (16, [some (.ref 0), some (.int p0)], [])) rfl rfl (w_32 (d := d + 4) hx) rfl ?_
    refine ax_Wp.retB hD rfl (fun b5 hD => ?_)
    obtain rfl := inj hD
    exact ⟨rfl, rfl⟩
  · obtain rfl := inj hD
    exact ax_Wp.callX (f' := (5, [some (.ref 0), some (.int p0)], [])) rfl rfl (w_127 (d := d + 0) hx) rfl ⟨rfl, rfl⟩
def D33 (m : dM) (p0 : Int32) : Option (Int32) := (D29 m p0).bind fun (x1 : Int32) => if x1 = (nI 0) then some (-1) else (gI m 14 8 p0).bind fun (x2 : Int32) => if (nI 10) ≤ x2 then (gI m 14 8 p0).bind fun (x3 : Int32) => Option.bind ((if (nI 14) ≤ x3 then (gI m 14 8 p0).bind fun (x5 : Int32) => some (x5 - (nI 14)) else (gI m 14 8 p0).bind fun (x6 : Int32) => some (x6 - (nI 10))) : Option (Int32)) fun (v4 : Int32) => some v4 else some (-1)
set_option maxRecDepth 20000 in
theorem w_33 {X : Nat × (Nat → Int32)} {d : Nat} {m : dM} {p0 : Int32} {r : Int32} (hD : D33 m p0 = some r) : ax_Ev X (d + 2) 23 [.ref 10, .int p0] (stt m) (.inl (some (.int r))) (stt m) := by
  unfold D33 at hD
  show ax_Wp X (d + 1 + 1) 23 (0, [some (.ref 10), some (.int p0)], []) (stt m) _
  refine ax_Wp.go (f' := (2, [some (.ref 10), some (.int p0)], [.int p0, .ref 10])) 2 rfl ?_
  refine bnd hD (fun x1 hx hD => ?_)
  refine ax_Wp.callE (f' := (5, [some (.ref 10), some (.int p0)], [])) rfl rfl (w_29 (d := d + 0) hx) rfl ?_
  refine ax_Wp.brD hD rfl (fun _ hD => ?_) (fun _ hD => ?_)
  · refine ax_Wp.go (f' := (20, [some (.ref 10), some (.int p0)], [.int (-1)])) 1 rfl ?_
    obtain rfl := inj hD
    exact ax_Wp.ret rfl ⟨rfl, rfl⟩
  · refine ax_Wp.go (f' := (13, [some (.ref 10), some (.int p0)], [.int p0, .ref 14])) 3 rfl ?_
    refine ax_Wp.rdI hD rfl rfl rfl (fun x2 hD => ?_)
    refine ax_Wp.go (f' := (16, [some (.ref 10), some (.int p0)], [.int (nI 10), .int x2])) 1 rfl ?_
    refine ax_Wp.brD hD rfl (fun _ hD => ?_) (fun _ hD => ?_)
    · refine ax_Wp.go (f' := (26, [some (.ref 10), some (.int p0)], [.int p0, .ref 14])) 3 rfl ?_
      refine ax_Wp.rdI hD rfl rfl rfl (fun x3 hD => ?_)
      refine ax_Wp.go (f' := (29, [some (.ref 10), some (.int p0)], [.int (nI 14), .int x3])) 1 rfl ?_
      refine bnd hD (fun v4 hx hD => ?_)
      refine ax_Wp.jn (F := (53, [some (.ref 10), none], [.int v4])) (hh := stt m) ?_ (fun kkv4 => ?_)
      · obtain rfl := inj hD
        exact ax_Wp.ret rfl ⟨rfl, rfl⟩
      clear hD
      have hD := hx
      clear hx
      refine ax_Wp.brD hD rfl (fun _ hD => ?_) (fun _ hD => ?_)
      · refine ax_Wp.go (f' := (49, [some (.ref 10), some (.int p0)], [.int p0, .ref 14])) 3 rfl ?_
        refine ax_Wp.rdI hD rfl rfl rfl (fun x5 hD => ?_)
        refine ax_Wp.go (f' := (53, [some (.ref 10), some (.int p0)], [.int (x5 - (nI 14))])) 2 rfl ?_
        obtain rfl := inj hD
        exact ax_Wp.dead kkv4 ⟨.inl rfl, ⟨.inr ⟨rfl, trivial⟩, trivial⟩⟩
      · refine ax_Wp.go (f' := (37, [some (.ref 10), some (.int p0)], [.int p0, .ref 14])) 3 rfl ?_
        refine ax_Wp.rdI hD rfl rfl rfl (fun x6 hD => ?_)
        refine ax_Wp.go (f' := (53, [some (.ref 10), some (.int p0)], [.int (x6 - (nI 10))])) 3 rfl ?_
        obtain rfl := inj hD
        exact ax_Wp.dead kkv4 ⟨.inl rfl, ⟨.inr ⟨rfl, trivial⟩, trivial⟩⟩
    · refine ax_Wp.go (f' := (20, [some (.ref 10), some (.int p0)], [.int (-1)])) 1 rfl ?_
      obtain rfl := inj hD
      exact ax_Wp.ret rfl ⟨rfl, rfl⟩
def D104 (m : dM) (p0 : Int32) : Option (Int32 ⊕ Nat) := cT (D127 m p0) m (fun (x1 : Unit) => (D31 m p0).bind fun (x4 : Int32) => if x4 = (nI 0) then (D33 m p0).bind fun (x5 : Int32) => some (.inl x5) else some (.inr 2)) (fun (j2 : Nat) (m3 : dM) => some (.inr j2))
set_option maxRecDepth 20000 in
theorem w_104 {X : Nat × (Nat → Int32)} {d : Nat} {m : dM} {p0 : Int32} {r : Int32 ⊕ Nat} (hD : D104 m p0 = some r) : ax_Ev X (d + 7) 83 [.ref 0, .int p0] (stt m) (oT (fun x => some (.int x)) r) (stt (bT m r)) := by
  unfold D104 at hD
  show ax_Wp X (d + 6 + 1) 83 (0, [some (.ref 0), some (.int p0)], []) (stt m) _
  refine ax_Wp.go (f' := (2, [some (.ref 0), some (.int p0)], [.int p0, .ref 0])) 2 rfl ?_
  refine cT.sp hD (fun x1 hx hD => ?_) (fun j2 hx hD => ?_)
  · refine ax_Wp.callE (f' := (5, [some (.ref 0), some (.int p0)], [])) rfl rfl (w_127 (d := d + 0) hx) rfl ?_
    refine ax_Wp.go (f' := (13, [some (.ref 0), some (.int p0)], [.int p0, .ref 10])) 4 rfl ?_
    refine bnd hD (fun x4 hx hD => ?_)
    refine ax_Wp.callE (f' := (16, [some (.ref 0), some (.int p0)], [])) rfl rfl (w_31 (d := d + 4) hx) rfl ?_
    refine ax_Wp.brD hD rfl (fun _ hD => ?_) (fun _ hD => ?_)
    · refine ax_Wp.go (f' := (37, [some (.ref 0), some (.int p0)], [.int p0, .ref 10])) 4 rfl ?_
      refine bnd hD (fun x5 hx hD => ?_)
      refine ax_Wp.callE (f' := (40, [some (.ref 0), some (.int p0)], [])) rfl rfl (w_33 (d := d + 4) hx) rfl ?_
      obtain rfl := inj hD
      exact ax_Wp.ret rfl ⟨rfl, rfl⟩
    · obtain rfl := inj hD
      exact ax_Wp.thr rfl (ax_six _ rfl) ⟨rfl, rfl⟩
  · obtain rfl := inj hD
    exact ax_Wp.callX (f' := (5, [some (.ref 0), some (.int p0)], [])) rfl rfl (w_127 (d := d + 0) hx) rfl ⟨rfl, rfl⟩
def D46 (m : dM) (p0 : Int32) : Option (Int32) := (D29 m p0).bind fun (x1 : Int32) => if x1 = (nI 0) then some (-1) else (D32 m p0).bind fun (x2 : Int32) => if x2 = (nI 0) then (D33 m p0).bind fun (x3 : Int32) => (D128 x3).bind fun (x4 : Int32) => if x4 = (nI 0) then (gI m 14 8 p0).bind fun (x5 : Int32) => some x5 else (gI m 6 4 x3).bind fun (x6 : Int32) => some x6 else (gI m 11 8 p0).bind fun (x7 : Int32) => some x7
set_option maxRecDepth 20000 in
theorem w_46 {X : Nat × (Nat → Int32)} {d : Nat} {m : dM} {p0 : Int32} {r : Int32} (hD : D46 m p0 = some r) : ax_Ev X (d + 3) 36 [.ref 1, .int p0] (stt m) (.inl (some (.int r))) (stt m) := by
  unfold D46 at hD
  show ax_Wp X (d + 2 + 1) 36 (0, [some (.ref 1), some (.int p0), none], []) (stt m) _
  refine ax_Wp.go (f' := (5, [some (.ref 1), some (.int p0), none], [.int p0, .ref 10])) 3 rfl ?_
  refine bnd hD (fun x1 hx hD => ?_)
  refine ax_Wp.callE (f' := (8, [some (.ref 1), some (.int p0), none], [])) rfl rfl (w_29 (d := d + 1) hx) rfl ?_
  refine ax_Wp.brD hD rfl (fun _ hD => ?_) (fun _ hD => ?_)
  · refine ax_Wp.go (f' := (12, [some (.ref 1), some (.int p0), none], [.int (-1)])) 1 rfl ?_
    obtain rfl := inj hD
    exact ax_Wp.ret rfl ⟨rfl, rfl⟩
  · refine ax_Wp.go (f' := (18, [some (.ref 1), some (.int p0), none], [.int p0, .ref 10])) 3 rfl ?_
    refine bnd hD (fun x2 hx hD => ?_)
    refine ax_Wp.callE (f' := (21, [some (.ref 1), some (.int p0), none], [])) rfl rfl (w_32 (d := d + 0) hx) rfl ?_
    refine ax_Wp.brD hD rfl (fun _ hD => ?_) (fun _ hD => ?_)
    · refine ax_Wp.go (f' := (39, [some (.ref 1), some (.int p0), none], [.int p0, .ref 10])) 3 rfl ?_
      refine bnd hD (fun x3 hx hD => ?_)
      refine ax_Wp.callE (f' := (42, [some (.ref 1), some (.int p0), none], [])) rfl rfl (w_33 (d := d + 0) hx) rfl ?_
      refine ax_Wp.go (f' := (44, [some (.ref 1), some (.int p0), some (.int x3)], [.int x3])) 2 rfl ?_
      refine bnd hD (fun x4 hx hD => ?_)
      refine ax_Wp.callE (f' := (47, [some (.ref 1), some (.int p0), some (.int x3)], [])) rfl rfl (w_128 (d := d + 1) hx) rfl ?_
      refine ax_Wp.brD hD rfl (fun _ hD => ?_) (fun _ hD => ?_)
      · refine ax_Wp.go (f' := (68, [some (.ref 1), some (.int p0), some (.int x3)], [.int p0, .ref 14])) 4 rfl ?_
        refine ax_Wp.rdI hD rfl rfl rfl (fun x5 hD => ?_)
        obtain rfl := inj hD
        exact ax_Wp.ret rfl ⟨rfl, rfl⟩
      · refine ax_Wp.go (f' := (58, [some (.ref 1), some (.int p0), some (.int x3)], [.int x3, .ref 6])) 4 rfl ?_
        refine ax_Wp.rdI hD rfl rfl rfl (fun x6 hD => ?_)
        obtain rfl := inj hD
        exact ax_Wp.ret rfl ⟨rfl, rfl⟩
    · refine ax_Wp.go (f' := (32, [some (.ref 1), some (.int p0), none], [.int p0, .ref 11])) 4 rfl ?_
      refine ax_Wp.rdI hD rfl rfl rfl (fun x7 hD => ?_)
      obtain rfl := inj hD
      exact ax_Wp.ret rfl ⟨rfl, rfl⟩
def D105 (m : dM) (p0 : Int32) : Option (Int32 ⊕ Nat) := cT (D127 m p0) m (fun (x1 : Unit) => (D46 m p0).bind fun (x4 : Int32) => some (.inl x4)) (fun (j2 : Nat) (m3 : dM) => some (.inr j2))
set_option maxRecDepth 20000 in
theorem w_105 {X : Nat × (Nat → Int32)} {d : Nat} {m : dM} {p0 : Int32} {r : Int32 ⊕ Nat} (hD : D105 m p0 = some r) : ax_Ev X (d + 7) 84 [.ref 0, .int p0] (stt m) (oT (fun x => some (.int x)) r) (stt (bT m r)) := by
  unfold D105 at hD
  show ax_Wp X (d + 6 + 1) 84 (0, [some (.ref 0), some (.int p0)], []) (stt m) _
  refine ax_Wp.go (f' := (2, [some (.ref 0), some (.int p0)], [.int p0, .ref 0])) 2 rfl ?_
  refine cT.sp hD (fun x1 hx hD => ?_) (fun j2 hx hD => ?_)
  · refine ax_Wp.callE (f' := (5, [some (.ref 0), some (.int p0)], [])) rfl rfl (w_127 (d := d + 0) hx) rfl ?_
    refine ax_Wp.go (f' := (10, [some (.ref 0), some (.int p0)], [.int p0, .ref 1])) 3 rfl ?_
    refine bnd hD (fun x4 hx hD => ?_)
    refine ax_Wp.callE (f' := (13, [some (.ref 0), some (.int p0)], [])) rfl rfl (w_46 (d := d + 3) hx) rfl ?_
    obtain rfl := inj hD
    exact ax_Wp.ret rfl ⟨rfl, rfl⟩
  · obtain rfl := inj hD
    exact ax_Wp.callX (f' := (5, [some (.ref 0), some (.int p0)], [])) rfl rfl (w_127 (d := d + 0) hx) rfl ⟨rfl, rfl⟩
def D96 (m : dM) (p0 : Int32) : Option (Int32 ⊕ Nat) := cT (D124 p0) m (fun (x1 : Unit) => (D34 m p0).bind fun (x4 : Int32) => some (.inl x4)) (fun (j2 : Nat) (m3 : dM) => some (.inr j2))
set_option maxRecDepth 20000 in
theorem w_96 {X : Nat × (Nat → Int32)} {d : Nat} {m : dM} {p0 : Int32} {r : Int32 ⊕ Nat} (hD : D96 m p0 = some r) : ax_Ev X (d + 7) 75 [.ref 0, .int p0] (stt m) (oT (fun x => some (.int x)) r) (stt (bT m r)) := by
  unfold D96 at hD
  show ax_Wp X (d + 6 + 1) 75 (0, [some (.ref 0), some (.int p0)], []) (stt m) _
  refine ax_Wp.go (f' := (1, [some (.ref 0), some (.int p0)], [.int p0])) 1 rfl ?_
  refine cT.sp hD (fun x1 hx hD => ?_) (fun j2 hx hD => ?_)
  · refine ax_Wp.callE (f' := (4, [some (.ref 0), some (.int p0)], [])) rfl rfl (w_124 (d := d + 0) hx) rfl ?_
    refine ax_Wp.go (f' := (12, [some (.ref 0), some (.int p0)], [.int p0, .ref 10])) 4 rfl ?_
    refine bnd hD (fun x4 hx hD => ?_)
    refine ax_Wp.callE (f' := (15, [some (.ref 0), some (.int p0)], [])) rfl rfl (w_34 (d := d + 5) hx) rfl ?_
    obtain rfl := inj hD
    exact ax_Wp.ret rfl ⟨rfl, rfl⟩
  · obtain rfl := inj hD
    exact ax_Wp.callX (f' := (4, [some (.ref 0), some (.int p0)], [])) rfl rfl (w_124 (d := d + 0) hx) rfl ⟨rfl, rfl⟩
def D109 (m : dM) : Option (Int32) := some (rI m 1 8)
set_option maxRecDepth 20000 in
theorem w_109 {X : Nat × (Nat → Int32)} {d : Nat} {m : dM} {r : Int32} (hD : D109 m = some r) : ax_Ev X (d + 1) 88 [.ref 0] (stt m) (.inl (some (.int r))) (stt m) := by
  unfold D109 at hD
  show ax_Wp X (d + 0 + 1) 88 (0, [some (.ref 0)], []) (stt m) _
  refine ax_Wp.go (f' := (7, [some (.ref 0)], [.int (rI m 1 8)])) 3 rfl ?_
  obtain rfl := inj hD
  exact ax_Wp.ret rfl ⟨rfl, rfl⟩
def D108 (m : dM) : Option (Int32) := some (rI m 1 7)
set_option maxRecDepth 20000 in
theorem w_108 {X : Nat × (Nat → Int32)} {d : Nat} {m : dM} {r : Int32} (hD : D108 m = some r) : ax_Ev X (d + 1) 87 [.ref 0] (stt m) (.inl (some (.int r))) (stt m) := by
  unfold D108 at hD
  show ax_Wp X (d + 0 + 1) 87 (0, [some (.ref 0)], []) (stt m) _
  refine ax_Wp.go (f' := (7, [some (.ref 0)], [.int (rI m 1 7)])) 3 rfl ?_
  obtain rfl := inj hD
  exact ax_Wp.ret rfl ⟨rfl, rfl⟩
def D58_2_46 (m : dM) : Option (dM) := (kI m 47 3 24).bind fun (m1 : dM) => (kI m1 48 4 24).bind fun (m2 : dM) => (fI m2 2 2 (rI m2 46 2)).bind fun (m3 : dM) => (fI m3 2 3 (rI m3 46 3)).bind fun (m4 : dM) => (fI m4 2 4 (rI m4 46 4)).bind fun (m5 : dM) => some m5
set_option maxRecDepth 20000 in
theorem w_58_2_46 {X : Nat × (Nat → Int32)} {d : Nat} {m : dM} {r : dM} (hD : D58_2_46 m = some r) : ax_Ev X (d + 1) 46 [.ref 2, .ref 46] (stt m) (.inl none) (stt r) := by
  unfold D58_2_46 at hD
  show ax_Wp X (d + 0 + 1) 46 (0, [some (.ref 2), some (.ref 46)], []) (stt m) _
  refine ax_Wp.go (f' := (12, [some (.ref 2), some (.ref 46)], [.int (nI 24), .int (nI 0), .ref 3, .int (nI 0), .ref 47])) 7 rfl ?_
  refine ax_Wp.cpI (S' := []) hD rfl rfl (fun _ => rfl) (fun m1 hD => ?_)
  refine ax_Wp.go (f' := (27, [some (.ref 2), some (.ref 46)], [.int (nI 24), .int (nI 0), .ref 4, .int (nI 0), .ref 48])) 7 rfl ?_
  refine ax_Wp.cpI (S' := []) hD rfl rfl (fun _ => rfl) (fun m2 hD => ?_)
  refine ax_Wp.go (f' := (35, [some (.ref 2), some (.ref 46)], [.int (rI m2 46 2), .ref 2])) 3 rfl ?_
  refine ax_Wp.ptI hD rfl rfl rfl (fun m3 hD => ?_)
  refine ax_Wp.go (f' := (43, [some (.ref 2), some (.ref 46)], [.int (rI m3 46 3), .ref 2])) 3 rfl ?_
  refine ax_Wp.ptI hD rfl rfl rfl (fun m4 hD => ?_)
  refine ax_Wp.go (f' := (51, [some (.ref 2), some (.ref 46)], [.int (rI m4 46 4), .ref 2])) 3 rfl ?_
  refine ax_Wp.ptI hD rfl rfl rfl (fun m5 hD => ?_)
  obtain rfl := inj hD
  exact ax_Wp.ret rfl ⟨rfl, rfl⟩
def D1_5_49 (m : dM) : Option (dM) := (kI m 50 6 4).bind fun (m1 : dM) => (kI m1 51 7 4).bind fun (m2 : dM) => (kI m2 52 8 4).bind fun (m3 : dM) => (kI m3 53 9 4).bind fun (m4 : dM) => (fI m4 5 4 (rI m4 49 4)).bind fun (m5 : dM) => some m5
set_option maxRecDepth 20000 in
theorem w_1_5_49 {X : Nat × (Nat → Int32)} {d : Nat} {m : dM} {r : dM} (hD : D1_5_49 m = some r) : ax_Ev X (d + 1) 1 [.ref 5, .ref 49] (stt m) (.inl none) (stt r) := by
  unfold D1_5_49 at hD
  show ax_Wp X (d + 0 + 1) 1 (0, [some (.ref 5), some (.ref 49)], []) (stt m) _
  refine ax_Wp.go (f' := (11, [some (.ref 5), some (.ref 49)], [.int (nI 4), .int (nI 0), .ref 6, .int (nI 0), .ref 50])) 7 rfl ?_
  refine ax_Wp.cpI (S' := []) hD rfl rfl (fun _ => rfl) (fun m1 hD => ?_)
  refine ax_Wp.go (f' := (25, [some (.ref 5), some (.ref 49)], [.int (nI 4), .int (nI 0), .ref 7, .int (nI 0), .ref 51])) 7 rfl ?_
  refine ax_Wp.cpI (S' := []) hD rfl rfl (fun _ => rfl) (fun m2 hD => ?_)
  refine ax_Wp.go (f' := (39, [some (.ref 5), some (.ref 49)], [.int (nI 4), .int (nI 0), .ref 8, .int (nI 0), .ref 52])) 7 rfl ?_
  refine ax_Wp.cpI (S' := []) hD rfl rfl (fun _ => rfl) (fun m3 hD => ?_)
  refine ax_Wp.go (f' := (53, [some (.ref 5), some (.ref 49)], [.int (nI 4), .int (nI 0), .ref 9, .int (nI 0), .ref 53])) 7 rfl ?_
  refine ax_Wp.cpI (S' := []) hD rfl rfl (fun _ => rfl) (fun m4 hD => ?_)
  refine ax_Wp.go (f' := (61, [some (.ref 5), some (.ref 49)], [.int (rI m4 49 4), .ref 5])) 3 rfl ?_
  refine ax_Wp.ptI hD rfl rfl rfl (fun m5 hD => ?_)
  obtain rfl := inj hD
  exact ax_Wp.ret rfl ⟨rfl, rfl⟩
