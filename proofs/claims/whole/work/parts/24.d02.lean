/-! WHAT METHODS DO, printed of their bytecode: 2 -/
def D128 (p0 : Int32) : Option (Int32) := Option.bind ((if p0 < (nI 0) then some (nI 0) else if (nI 4) ≤ p0 then some (nI 0) else some (nI 1)) : Option (Int32)) fun (v1 : Int32) => (gB v1).bind fun (b2 : Int32) => some b2
set_option maxRecDepth 20000 in
theorem w_128 {X : Nat × (Nat → Int32)} {d : Nat} {m : dM} {p0 : Int32} {r : Int32} (hD : D128 p0 = some r) : ax_Ev X (d + 1) 128 [.int p0] (stt m) (.inl (some (.int r))) (stt m) := by
  unfold D128 at hD
  show ax_Wp X (d + 0 + 1) 128 (0, [some (.int p0)], []) (stt m) _
  refine ax_Wp.go (f' := (1, [some (.int p0)], [.int p0])) 1 rfl ?_
  refine bnd hD (fun v1 hx hD => ?_)
  refine ax_Wp.jn (F := (14, [none], [.int v1])) (hh := stt m) ?_ (fun kkv1 => ?_)
  · refine ax_Wp.retB hD rfl (fun b2 hD => ?_)
    obtain rfl := inj hD
    exact ⟨rfl, rfl⟩
  clear hD
  have hD := hx
  clear hx
  refine ax_Wp.brD hD rfl (fun _ hD => ?_) (fun _ hD => ?_)
  · refine ax_Wp.go (f' := (14, [some (.int p0)], [.int (nI 0)])) 1 rfl ?_
    obtain rfl := inj hD
    exact ax_Wp.dead kkv1 ⟨.inr ⟨rfl, trivial⟩, trivial⟩
  · refine ax_Wp.go (f' := (6, [some (.int p0)], [.int (nI 4), .int p0])) 2 rfl ?_
    refine ax_Wp.brD hD rfl (fun _ hD => ?_) (fun _ hD => ?_)
    · refine ax_Wp.go (f' := (14, [some (.int p0)], [.int (nI 0)])) 1 rfl ?_
      obtain rfl := inj hD
      exact ax_Wp.dead kkv1 ⟨.inr ⟨rfl, trivial⟩, trivial⟩
    · refine ax_Wp.go (f' := (14, [some (.int p0)], [.int (nI 1)])) 2 rfl ?_
      obtain rfl := inj hD
      exact ax_Wp.dead kkv1 ⟨.inr ⟨rfl, trivial⟩, trivial⟩
def D124 (p0 : Int32) : Option (Unit ⊕ Nat) := (D128 p0).bind fun (x1 : Int32) => if x1 = (nI 0) then some (.inr 0) else some (.inl ())
set_option maxRecDepth 20000 in
theorem w_124 {X : Nat × (Nat → Int32)} {d : Nat} {m : dM} {p0 : Int32} {r : Unit ⊕ Nat} (hD : D124 p0 = some r) : ax_Ev X (d + 6) 124 [.int p0] (stt m) (oT (fun (_ : Unit) => none) r) (stt (bT m r)) := by
  unfold D124 at hD
  show ax_Wp X (d + 5 + 1) 124 (0, [some (.int p0)], []) (stt m) _
  refine ax_Wp.go (f' := (1, [some (.int p0)], [.int p0])) 1 rfl ?_
  refine bnd hD (fun x1 hx hD => ?_)
  refine ax_Wp.callE (f' := (4, [some (.int p0)], [])) rfl rfl (w_128 (d := d + 4) hx) rfl ?_
  refine ax_Wp.brD hD rfl (fun _ hD => ?_) (fun _ hD => ?_)
  · obtain rfl := inj hD
    exact ax_Wp.thr rfl (ax_six _ rfl) ⟨rfl, rfl⟩
  · obtain rfl := inj hD
    exact ax_Wp.ret rfl ⟨rfl, rfl⟩
def D123 (p0 : Int32) : Option (Unit ⊕ Nat) := if p0 < (nI 0) then some (.inr 0) else if p0 < (nI 10) then some (.inl ()) else some (.inr 0)
set_option maxRecDepth 20000 in
theorem w_123 {X : Nat × (Nat → Int32)} {d : Nat} {m : dM} {p0 : Int32} {r : Unit ⊕ Nat} (hD : D123 p0 = some r) : ax_Ev X (d + 6) 123 [.int p0] (stt m) (oT (fun (_ : Unit) => none) r) (stt (bT m r)) := by
  unfold D123 at hD
  show ax_Wp X (d + 5 + 1) 123 (0, [some (.int p0)], []) (stt m) _
  refine ax_Wp.go (f' := (1, [some (.int p0)], [.int p0])) 1 rfl ?_
  refine ax_Wp.brD hD rfl (fun _ hD => ?_) (fun _ hD => ?_)
  · obtain rfl := inj hD
    exact ax_Wp.thr rfl (ax_six _ rfl) ⟨rfl, rfl⟩
  · refine ax_Wp.go (f' := (7, [some (.int p0)], [.int (nI 10), .int p0])) 2 rfl ?_
    refine ax_Wp.brD hD rfl (fun _ hD => ?_) (fun _ hD => ?_)
    · obtain rfl := inj hD
      exact ax_Wp.ret rfl ⟨rfl, rfl⟩
    · obtain rfl := inj hD
      exact ax_Wp.thr rfl (ax_six _ rfl) ⟨rfl, rfl⟩
def D2 (m : dM) (p0 : Int32) : Option (Int32) := lp (β := Int32) 3000 (fun (s1 : Int32) => if (nI 4) ≤ s1 then some (.inr (-1)) else (gI m 6 4 s1).bind fun (x2 : Int32) => if x2 = p0 then some (.inr s1) else some (.inl (s1 + (nI 1)))) (nI 0)
set_option maxRecDepth 20000 in
theorem w_2 {X : Nat × (Nat → Int32)} {d : Nat} {m : dM} {p0 : Int32} {r : Int32} (hD : D2 m p0 = some r) : ax_Ev X (d + 1) 2 [.ref 5, .int p0] (stt m) (.inl (some (.int r))) (stt m) := by
  unfold D2 at hD
  show ax_Wp X (d + 0 + 1) 2 (0, [some (.ref 5), some (.int p0), none], []) (stt m) _
  refine ax_Wp.go (f' := (2, [some (.ref 5), some (.int p0), some (.int (nI 0))], [])) 2 rfl ?_
  refine ax_Wp.lpD (fun (s1 : Int32) => ((2, [some (.ref 5), some (.int p0), some (.int s1)], []), stt m)) ?_ hD
  clear hD
  intro s1 v hD ks1
  refine ax_Wp.go (f' := (4, [some (.ref 5), some (.int p0), some (.int s1)], [.int (nI 4), .int s1])) 2 rfl ?_
  refine ax_Wp.brD hD rfl (fun _ hD => ?_) (fun _ hD => ?_)
  · refine ax_Wp.go (f' := (26, [some (.ref 5), some (.int p0), some (.int s1)], [.int (-1)])) 1 rfl ?_
    obtain rfl := inj hD
    obtain rfl := ks1.o
    exact ax_Wp.ret rfl ⟨rfl, rfl⟩
  · refine ax_Wp.go (f' := (12, [some (.ref 5), some (.int p0), some (.int s1)], [.int s1, .ref 6])) 3 rfl ?_
    refine ax_Wp.rdI hD rfl rfl rfl (fun x2 hD => ?_)
    refine ax_Wp.go (f' := (14, [some (.ref 5), some (.int p0), some (.int s1)], [.int p0, .int x2])) 1 rfl ?_
    refine ax_Wp.brD hD rfl (fun _ hD => ?_) (fun _ hD => ?_)
    · refine ax_Wp.go (f' := (18, [some (.ref 5), some (.int p0), some (.int s1)], [.int s1])) 1 rfl ?_
      obtain rfl := inj hD
      obtain rfl := ks1.o
      exact ax_Wp.ret rfl ⟨rfl, rfl⟩
    · refine ax_Wp.go (f' := (2, [some (.ref 5), some (.int p0), some (.int (s1 + (nI 1)))], [])) 2 rfl ?_
      obtain rfl := inj hD
      exact ks1.i
def D4 (m : dM) (p0 : Int32) : Option (Int32 × dM) := (D128 p0).bind fun (x1 : Int32) => if x1 = (nI 0) then some (nI 0, m) else (gI m 7 4 p0).bind fun (x2 : Int32) => if x2 = (-1) then some (nI 0, m) else (sI m 7 4 p0 (-1)).bind fun (m3 : dM) => some (nI 1, m3)
set_option maxRecDepth 20000 in
theorem w_4 {X : Nat × (Nat → Int32)} {d : Nat} {m : dM} {p0 : Int32} {r : Int32 × dM} (hD : D4 m p0 = some r) : ax_Ev X (d + 2) 4 [.ref 5, .int p0] (stt m) (.inl (some (.int r.1))) (stt r.2) := by
  unfold D4 at hD
  show ax_Wp X (d + 1 + 1) 4 (0, [some (.ref 5), some (.int p0)], []) (stt m) _
  refine ax_Wp.go (f' := (1, [some (.ref 5), some (.int p0)], [.int p0])) 1 rfl ?_
  refine bnd hD (fun x1 hx hD => ?_)
  refine ax_Wp.callE (f' := (4, [some (.ref 5), some (.int p0)], [])) rfl rfl (w_128 (d := d + 0) hx) rfl ?_
  refine ax_Wp.brD hD rfl (fun _ hD => ?_) (fun _ hD => ?_)
  · refine ax_Wp.go (f' := (18, [some (.ref 5), some (.int p0)], [.int (nI 0)])) 1 rfl ?_
    obtain rfl := inj hD
    exact ax_Wp.ret rfl ⟨rfl, rfl⟩
  · refine ax_Wp.go (f' := (12, [some (.ref 5), some (.int p0)], [.int p0, .ref 7])) 3 rfl ?_
    refine ax_Wp.rdI hD rfl rfl rfl (fun x2 hD => ?_)
    refine ax_Wp.go (f' := (14, [some (.ref 5), some (.int p0)], [.int (-1), .int x2])) 1 rfl ?_
    refine ax_Wp.brD hD rfl (fun _ hD => ?_) (fun _ hD => ?_)
    · refine ax_Wp.go (f' := (18, [some (.ref 5), some (.int p0)], [.int (nI 0)])) 1 rfl ?_
      obtain rfl := inj hD
      exact ax_Wp.ret rfl ⟨rfl, rfl⟩
    · refine ax_Wp.go (f' := (25, [some (.ref 5), some (.int p0)], [.int (-1), .int p0, .ref 7])) 4 rfl ?_
      refine ax_Wp.wrI hD rfl rfl (fun _ => rfl) (fun m3 hD => ?_)
      refine ax_Wp.go (f' := (27, [some (.ref 5), some (.int p0)], [.int (nI 1)])) 1 rfl ?_
      obtain rfl := inj hD
      exact ax_Wp.ret rfl ⟨rfl, rfl⟩
def D42 (m : dM) : Option (Int64) := Option.bind (lp (β := Int64) 3000 (fun (s1 : Int64 × Int32) => if (nI 4) ≤ s1.2 then some (.inr s1.1) else (gI m 6 4 s1.2).bind fun (x3 : Int32) => some (.inl ((s1.1 <<< ((nI 4).toInt64 &&& 63)) ||| x3.toInt64, s1.2 + (nI 1)))) ((0 : Int64), nI 0)) fun (v2 : Int64) => Option.bind (lp (β := Int64) 3000 (fun (s4 : Int64 × Int32) => if (rI m 10 4) ≤ s4.2 then some (.inr s4.1) else (gI m 14 8 s4.2).bind fun (x6 : Int32) => some (.inl ((s4.1 <<< ((nI 5).toInt64 &&& 63)) ||| x6.toInt64, s4.2 + (nI 1)))) (v2, nI 0)) fun (v5 : Int64) => some v5
set_option maxRecDepth 20000 in
theorem w_42 {X : Nat × (Nat → Int32)} {d : Nat} {m : dM} {r : Int64} (hD : D42 m = some r) : ax_Ev X (d + 1) 42 [.ref 1] (stt m) (.inl (some (.long r))) (stt m) := by
  unfold D42 at hD
  show ax_Wp X (d + 0 + 1) 42 (0, [some (.ref 1), none, none, none], []) (stt m) _
  refine ax_Wp.go (f' := (4, [some (.ref 1), some (.long (0 : Int64)), none, some (.int (nI 0))], [])) 4 rfl ?_
  refine bnd hD (fun v2 hx hD => ?_)
  refine ax_Wp.jn (F := (30, [some (.ref 1), some (.long v2), none, none], [])) (hh := stt m) ?_ (fun kkv2 => ?_)
  · refine ax_Wp.go (f' := (32, [some (.ref 1), some (.long v2), none, some (.int (nI 0))], [])) 2 rfl ?_
    refine bnd hD (fun v5 hx hD => ?_)
    refine ax_Wp.jn (F := (64, [some (.ref 1), some (.long v5), none, none], [])) (hh := stt m) ?_ (fun kkv5 => ?_)
    · refine ax_Wp.go (f' := (65, [some (.ref 1), some (.long v5), none, none], [.long v5])) 1 rfl ?_
      obtain rfl := inj hD
      exact ax_Wp.ret rfl ⟨rfl, rfl⟩
    clear hD
    refine ax_Wp.lpD (fun (s4 : Int64 × Int32) => ((32, [some (.ref 1), some (.long s4.1), none, some (.int s4.2)], []), stt m)) ?_ hx
    clear hx
    intro s4 v hD ks4
    refine ax_Wp.go (f' := (40, [some (.ref 1), some (.long s4.1), none, some (.int s4.2)], [.int (rI m 10 4), .int s4.2])) 4 rfl ?_
    refine ax_Wp.brD hD rfl (fun _ hD => ?_) (fun _ hD => ?_)
    · obtain rfl := inj hD
      obtain rfl := ks4.o
      exact ax_Wp.dead kkv5 ⟨.inl rfl, ⟨.inl rfl, ⟨.inl rfl, ⟨.inr ⟨rfl, trivial⟩, trivial⟩⟩⟩⟩
    · refine ax_Wp.go (f' := (54, [some (.ref 1), some (.long s4.1), none, some (.int s4.2)], [.int s4.2, .ref 14, .long (s4.1 <<< ((nI 5).toInt64 &&& 63))])) 7 rfl ?_
      refine ax_Wp.rdI hD rfl rfl rfl (fun x6 hD => ?_)
      refine ax_Wp.go (f' := (32, [some (.ref 1), some (.long ((s4.1 <<< ((nI 5).toInt64 &&& 63)) ||| x6.toInt64)), none, some (.int (s4.2 + (nI 1)))], [])) 5 rfl ?_
      obtain rfl := inj hD
      exact ks4.i
  clear hD
  refine ax_Wp.lpD (fun (s1 : Int64 × Int32) => ((4, [some (.ref 1), some (.long s1.1), none, some (.int s1.2)], []), stt m)) ?_ hx
  clear hx
  intro s1 v hD ks1
  refine ax_Wp.go (f' := (6, [some (.ref 1), some (.long s1.1), none, some (.int s1.2)], [.int (nI 4), .int s1.2])) 2 rfl ?_
  refine ax_Wp.brD hD rfl (fun _ hD => ?_) (fun _ hD => ?_)
  · obtain rfl := inj hD
    obtain rfl := ks1.o
    exact ax_Wp.dead kkv2 ⟨.inl rfl, ⟨.inl rfl, ⟨.inl rfl, ⟨.inr ⟨rfl, trivial⟩, trivial⟩⟩⟩⟩
  · refine ax_Wp.go (f' := (20, [some (.ref 1), some (.long s1.1), none, some (.int s1.2)], [.int s1.2, .ref 6, .long (s1.1 <<< ((nI 4).toInt64 &&& 63))])) 7 rfl ?_
    refine ax_Wp.rdI hD rfl rfl rfl (fun x3 hD => ?_)
    refine ax_Wp.go (f' := (4, [some (.ref 1), some (.long ((s1.1 <<< ((nI 4).toInt64 &&& 63)) ||| x3.toInt64)), none, some (.int (s1.2 + (nI 1)))], [])) 5 rfl ?_
    obtain rfl := inj hD
    exact ks1.i
def D23 (m : dM) (p0 : Int64) : Option (dM) := Option.bind ((if (nI 61) ≤ (rI m 15 1) then some m else (sL m 16 61 (rI m 15 1) p0).bind fun (m2 : dM) => (fI m2 15 1 ((rI m2 15 1) + (nI 1))).bind fun (m3 : dM) => some m3) : Option (dM)) fun (v1 : dM) => some v1
set_option maxRecDepth 20000 in
theorem w_23 {X : Nat × (Nat → Int32)} {d : Nat} {m : dM} {p0 : Int64} {r : dM} (hD : D23 m p0 = some r) : ax_Ev X (d + 1) 23 [.ref 15, .long p0] (stt m) (.inl none) (stt r) := by
  unfold D23 at hD
  show ax_Wp X (d + 0 + 1) 23 (0, [some (.ref 15), some (.long p0), none], []) (stt m) _
  refine ax_Wp.go (f' := (9, [some (.ref 15), some (.long p0), none], [.int (nI 61), .int (rI m 15 1)])) 5 rfl ?_
  refine bnd hD (fun v1 hx hD => ?_)
  refine ax_Wp.jn (F := (32, [some (.ref 15), none, none], [])) (hh := stt v1) ?_ (fun kkv1 => ?_)
  · obtain rfl := inj hD
    exact ax_Wp.ret rfl ⟨rfl, rfl⟩
  clear hD
  have hD := hx
  clear hx
  refine ax_Wp.brD hD rfl (fun _ hD => ?_) (fun _ hD => ?_)
  · obtain rfl := inj hD
    exact ax_Wp.dead kkv1 ⟨.inl rfl, ⟨.inr ⟨rfl, trivial⟩, ⟨.inl rfl, trivial⟩⟩⟩
  · refine ax_Wp.go (f' := (21, [some (.ref 15), some (.long p0), none], [.long p0, .int (rI m 15 1), .ref 16])) 5 rfl ?_
    refine ax_Wp.wrL hD rfl rfl (fun _ => rfl) (fun m2 hD => ?_)
    refine ax_Wp.go (f' := (29, [some (.ref 15), some (.long p0), none], [.int ((rI m2 15 1) + (nI 1)), .ref 15])) 5 rfl ?_
    refine ax_Wp.ptI hD rfl rfl rfl (fun m3 hD => ?_)
    obtain rfl := inj hD
    exact ax_Wp.dead kkv1 ⟨.inl rfl, ⟨.inr ⟨rfl, trivial⟩, ⟨.inl rfl, trivial⟩⟩⟩
def D43 (m : dM) : Option (dM) := (fI m 15 1 (nI 0)).bind fun (m1 : dM) => (D42 m1).bind fun (x2 : Int64) => (D23 m1 x2).bind fun (r3 : dM) => some r3
set_option maxRecDepth 20000 in
theorem w_43 {X : Nat × (Nat → Int32)} {d : Nat} {m : dM} {r : dM} (hD : D43 m = some r) : ax_Ev X (d + 2) 43 [.ref 1] (stt m) (.inl none) (stt r) := by
  unfold D43 at hD
  show ax_Wp X (d + 1 + 1) 43 (0, [some (.ref 1)], []) (stt m) _
  refine ax_Wp.go (f' := (5, [some (.ref 1)], [.int (nI 0), .ref 15])) 3 rfl ?_
  refine ax_Wp.ptI hD rfl rfl rfl (fun m1 hD => ?_)
  refine ax_Wp.go (f' := (13, [some (.ref 1)], [.ref 1, .ref 15])) 3 rfl ?_
  refine bnd hD (fun x2 hx hD => ?_)
  refine ax_Wp.callE (f' := (16, [some (.ref 1)], [.ref 15])) rfl rfl (w_42 (d := d + 0) hx) rfl ?_
  refine bnd hD (fun r3 hx hD => ?_)
  refine ax_Wp.callE (f' := (19, [some (.ref 1)], [])) rfl rfl (w_23 (d := d + 0) hx) rfl ?_
  obtain rfl := inj hD
  exact ax_Wp.ret rfl ⟨rfl, rfl⟩
def D48 (m : dM) (p0 : Int32) (p1 : Int32) : Option (Int32 × dM) := (D128 p0).bind fun (x1 : Int32) => if x1 = (nI 0) then some ((-1), m) else (gI m 6 4 p0).bind fun (x2 : Int32) => (sI m 6 4 p0 p1).bind fun (m3 : dM) => (D4 m3 p0).bind fun (r4 : Int32 × dM) => (D43 r4.2).bind fun (r5 : dM) => some (x2, r5)
set_option maxRecDepth 20000 in
theorem w_48 {X : Nat × (Nat → Int32)} {d : Nat} {m : dM} {p0 : Int32} {p1 : Int32} {r : Int32 × dM} (hD : D48 m p0 p1 = some r) : ax_Ev X (d + 3) 48 [.ref 1, .int p0, .int p1] (stt m) (.inl (some (.int r.1))) (stt r.2) := by
  unfold D48 at hD
  show ax_Wp X (d + 2 + 1) 48 (0, [some (.ref 1), some (.int p0), some (.int p1), none], []) (stt m) _
  refine ax_Wp.go (f' := (1, [some (.ref 1), some (.int p0), some (.int p1), none], [.int p0])) 1 rfl ?_
  refine bnd hD (fun x1 hx hD => ?_)
  refine ax_Wp.callE (f' := (4, [some (.ref 1), some (.int p0), some (.int p1), none], [])) rfl rfl (w_128 (d := d + 1) hx) rfl ?_
  refine ax_Wp.brD hD rfl (fun _ hD => ?_) (fun _ hD => ?_)
  · refine ax_Wp.go (f' := (8, [some (.ref 1), some (.int p0), some (.int p1), none], [.int (-1)])) 1 rfl ?_
    obtain rfl := inj hD
    exact ax_Wp.ret rfl ⟨rfl, rfl⟩
  · refine ax_Wp.go (f' := (17, [some (.ref 1), some (.int p0), some (.int p1), none], [.int p0, .ref 6])) 4 rfl ?_
    refine ax_Wp.rdI hD rfl rfl rfl (fun x2 hD => ?_)
    refine ax_Wp.go (f' := (28, [some (.ref 1), some (.int p0), some (.int p1), some (.int x2)], [.int p1, .int p0, .ref 6])) 6 rfl ?_
    refine ax_Wp.wrI hD rfl rfl (fun _ => rfl) (fun m3 hD => ?_)
    refine ax_Wp.go (f' := (34, [some (.ref 1), some (.int p0), some (.int p1), some (.int x2)], [.int p0, .ref 5])) 3 rfl ?_
    refine bnd hD (fun r4 hx hD => ?_)
    refine ax_Wp.callE (f' := (37, [some (.ref 1), some (.int p0), some (.int p1), some (.int x2)], [])) rfl rfl (w_4 (d := d + 0) hx) rfl ?_
    refine ax_Wp.go (f' := (39, [some (.ref 1), some (.int p0), some (.int p1), some (.int x2)], [.ref 1])) 2 rfl ?_
    refine bnd hD (fun r5 hx hD => ?_)
    refine ax_Wp.callE (f' := (42, [some (.ref 1), some (.int p0), some (.int p1), some (.int x2)], [])) rfl rfl (w_43 (d := d + 0) hx) rfl ?_
    refine ax_Wp.go (f' := (43, [some (.ref 1), some (.int p0), some (.int p1), some (.int x2)], [.int x2])) 1 rfl ?_
    obtain rfl := inj hD
    exact ax_Wp.ret rfl ⟨rfl, rfl⟩
def D72 (m : dM) (p0 : Int32) (p1 : Int32) : Option ((Int32 ⊕ Nat) × dM) := cT (D124 p0) m (fun (x1 : Unit) => cT (D123 p1) m (fun (x4 : Unit) => (D2 m p1).bind fun (x7 : Int32) => if x7 = (-1) then (D131 m).bind fun (r8 : dM) => (D48 r8 p0 p1).bind fun (r9 : Int32 × dM) => some (.inl r9.1, r9.2) else if x7 = p0 then (D131 m).bind fun (r10 : dM) => (D48 r10 p0 p1).bind fun (r11 : Int32 × dM) => some (.inl r11.1, r11.2) else some (.inr 2, (bump m))) (fun (j5 : Nat) (m6 : dM) => some (.inr j5, m6))) (fun (j2 : Nat) (m3 : dM) => some (.inr j2, m3))
set_option maxRecDepth 20000 in
theorem w_72 {X : Nat × (Nat → Int32)} {d : Nat} {m : dM} {p0 : Int32} {p1 : Int32} {r : (Int32 ⊕ Nat) × dM} (hD : D72 m p0 p1 = some r) : ax_Ev X (d + 7) 72 [.ref 0, .int p0, .int p1] (stt m) (oT (fun x => some (.int x)) r.1) (stt r.2) := by
  unfold D72 at hD
  show ax_Wp X (d + 6 + 1) 72 (0, [some (.ref 0), some (.int p0), some (.int p1), none], []) (stt m) _
  refine ax_Wp.go (f' := (1, [some (.ref 0), some (.int p0), some (.int p1), none], [.int p0])) 1 rfl ?_
  refine cT.sp hD (fun x1 hx hD => ?_) (fun j2 hx hD => ?_)
  · refine ax_Wp.callE (f' := (4, [some (.ref 0), some (.int p0), some (.int p1), none], [])) rfl rfl (w_124 (d := d + 0) hx) rfl ?_
    refine ax_Wp.go (f' := (5, [some (.ref 0), some (.int p0), some (.int p1), none], [.int p1])) 1 rfl ?_
    refine cT.sp hD (fun x4 hx hD => ?_) (fun j5 hx hD => ?_)
    · refine ax_Wp.callE (f' := (8, [some (.ref 0), some (.int p0), some (.int p1), none], [])) rfl rfl (w_123 (d := d + 0) hx) rfl ?_
      refine ax_Wp.go (f' := (16, [some (.ref 0), some (.int p0), some (.int p1), none], [.int p1, .ref 5])) 4 rfl ?_
      refine bnd hD (fun x7 hx hD => ?_)
      refine ax_Wp.callE (f' := (19, [some (.ref 0), some (.int p0), some (.int p1), none], [])) rfl rfl (w_2 (d := d + 5) hx) rfl ?_
      refine ax_Wp.go (f' := (22, [some (.ref 0), some (.int p0), some (.int p1), some (.int x7)], [.int (-1), .int x7])) 3 rfl ?_
      refine ax_Wp.brD hD rfl (fun _ hD => ?_) (fun _ hD => ?_)
      · refine ax_Wp.go (f' := (41, [some (.ref 0), some (.int p0), some (.int p1), some (.int x7)], [.ref 0])) 1 rfl ?_
        refine bnd hD (fun r8 hx hD => ?_)
        refine ax_Wp.callE (f' := (44, [some (.ref 0), some (.int p0), some (.int p1), some (.int x7)], [])) rfl rfl (w_131 (d := d + 3) hx) rfl ?_
        refine ax_Wp.go (f' := (50, [some (.ref 0), some (.int p0), some (.int p1), some (.int x7)], [.int p1, .int p0, .ref 1])) 4 rfl ?_
        refine bnd hD (fun r9 hx hD => ?_)
        refine ax_Wp.callE (f' := (53, [some (.ref 0), some (.int p0), some (.int p1), some (.int x7)], [])) rfl rfl (w_48 (d := d + 3) hx) rfl ?_
        obtain rfl := inj hD
        exact ax_Wp.ret rfl ⟨rfl, rfl⟩
      · refine ax_Wp.go (f' := (27, [some (.ref 0), some (.int p0), some (.int p1), some (.int x7)], [.int p0, .int x7])) 2 rfl ?_
        refine ax_Wp.brD hD rfl (fun _ hD => ?_) (fun _ hD => ?_)
        · refine ax_Wp.go (f' := (41, [some (.ref 0), some (.int p0), some (.int p1), some (.int x7)], [.ref 0])) 1 rfl ?_
          refine bnd hD (fun r10 hx hD => ?_)
          refine ax_Wp.callE (f' := (44, [some (.ref 0), some (.int p0), some (.int p1), some (.int x7)], [])) rfl rfl (w_131 (d := d + 3) hx) rfl ?_
          refine ax_Wp.go (f' := (50, [some (.ref 0), some (.int p0), some (.int p1), some (.int x7)], [.int p1, .int p0, .ref 1])) 4 rfl ?_
          refine bnd hD (fun r11 hx hD => ?_)
          refine ax_Wp.callE (f' := (53, [some (.ref 0), some (.int p0), some (.int p1), some (.int x7)], [])) rfl rfl (w_48 (d := d + 3) hx) rfl ?_
          obtain rfl := inj hD
          exact ax_Wp.ret rfl ⟨rfl, rfl⟩
        · obtain rfl := inj hD
          exact ax_Wp.thr rfl (ax_six _ rfl) ⟨rfl, rfl⟩
    · obtain rfl := inj hD
      exact ax_Wp.callX (f' := (8, [some (.ref 0), some (.int p0), some (.int p1), none], [])) rfl rfl (w_123 (d := d + 0) hx) rfl ⟨rfl, rfl⟩
  · obtain rfl := inj hD
    exact ax_Wp.callX (f' := (4, [some (.ref 0), some (.int p0), some (.int p1), none], [])) rfl rfl (w_124 (d := d + 0) hx) rfl ⟨rfl, rfl⟩
def D247 (m : dM) (p0 : Int32) (p1 : Int32) : Option (Int32 × dM) := cG (D72 m p0 p1) (fun (x1 : Int32) (m4 : dM) => (sL m4 138 1 (nI 0) x1.toInt64).bind fun (m5 : dM) => some (nI 0, m5)) (fun (j2 : Nat) (m3 : dM) => if j2 = 0 then some (nI 1, m3) else if j2 = 2 then some (nI 2, m3) else none)
set_option maxRecDepth 20000 in
theorem w_247 {X : Nat × (Nat → Int32)} {d : Nat} {m : dM} {p0 : Int32} {p1 : Int32} {r : Int32 × dM} (hD : D247 m p0 p1 = some r) : ax_Ev X (d + 8) 247 [.ref 0, .int p0, .int p1, .ref 138] (stt m) (.inl (some (.int r.1))) (stt r.2) := by
  unfold D247 at hD
  show ax_Wp X (d + 7 + 1) 247 (0, [some (.ref 0), some (.int p0), some (.int p1), some (.ref 138), none], []) (stt m) _
  refine ax_Wp.go (f' := (5, [some (.ref 0), some (.int p0), some (.int p1), some (.ref 138), none], [.int p1, .int p0, .ref 0, .int (nI 0), .ref 138])) 5 rfl ?_
  refine cG.sp hD (fun x1 m4 hx hD => ?_) (fun j2 m3 hx hD => ?_)
  · refine ax_Wp.callE (f' := (8, [some (.ref 0), some (.int p0), some (.int p1), some (.ref 138), none], [.int (nI 0), .ref 138])) rfl rfl (w_72 (d := d + 0) hx) rfl ?_
    refine ax_Wp.go (f' := (9, [some (.ref 0), some (.int p0), some (.int p1), some (.ref 138), none], [.long x1.toInt64, .int (nI 0), .ref 138])) 1 rfl ?_
    refine ax_Wp.wrL hD rfl rfl (fun _ => rfl) (fun m5 hD => ?_)
    refine ax_Wp.go (f' := (22, [some (.ref 0), some (.int p0), some (.int p1), some (.ref 138), none], [.int (nI 0)])) 2 rfl ?_
    obtain rfl := inj hD
    exact ax_Wp.ret rfl ⟨rfl, rfl⟩
  · refine swD hD (fun e hD => ?_) (fun _ hD => ?_)
    · cases e
      refine ax_Wp.callH (f' := (8, [some (.ref 0), some (.int p0), some (.int p1), some (.ref 138), none], [.int (nI 0), .ref 138])) (pc2 := 15) (i := 4) rfl rfl (w_72 (d := d + 0) hx) rfl rfl rfl ?_
      refine ax_Wp.go (f' := (16, [some (.ref 0), some (.int p0), some (.int p1), some (.ref 138), none], [.int (nI 1)])) 1 rfl ?_
      obtain rfl := inj hD
      exact ax_Wp.ret rfl ⟨rfl, rfl⟩
    refine swD hD (fun e hD => ?_) (fun _ hD => ?_)
    · cases e
      refine ax_Wp.callH (f' := (8, [some (.ref 0), some (.int p0), some (.int p1), some (.ref 138), none], [.int (nI 0), .ref 138])) (pc2 := 19) (i := 4) rfl rfl (w_72 (d := d + 0) hx) rfl rfl rfl ?_
      refine ax_Wp.go (f' := (20, [some (.ref 0), some (.int p0), some (.int p1), some (.ref 138), none], [.int (nI 2)])) 1 rfl ?_
      obtain rfl := inj hD
      exact ax_Wp.ret rfl ⟨rfl, rfl⟩
    cases hD
def D3 (m : dM) (p0 : Int32) : Option (Int32) := Option.bind ((if (((rI m 5 4) >>> (p0 &&& nI 31)) &&& (nI 1)) = (nI 1) then some (nI 1) else some (nI 0)) : Option (Int32)) fun (v1 : Int32) => (gB v1).bind fun (b2 : Int32) => some b2
set_option maxRecDepth 20000 in
theorem w_3 {X : Nat × (Nat → Int32)} {d : Nat} {m : dM} {p0 : Int32} {r : Int32} (hD : D3 m p0 = some r) : ax_Ev X (d + 1) 3 [.ref 5, .int p0] (stt m) (.inl (some (.int r))) (stt m) := by
  unfold D3 at hD
  show ax_Wp X (d + 0 + 1) 3 (0, [some (.ref 5), some (.int p0)], []) (stt m) _
  refine ax_Wp.go (f' := (9, [some (.ref 5), some (.int p0)], [.int (nI 1), .int (((rI m 5 4) >>> (p0 &&& nI 31)) &&& (nI 1))])) 7 rfl ?_
  refine bnd hD (fun v1 hx hD => ?_)
  refine ax_Wp.jn (F := (17, [some (.ref 5), none], [.int v1])) (hh := stt m) ?_ (fun kkv1 => ?_)
  · refine ax_Wp.retB hD rfl (fun b2 hD => ?_)
    obtain rfl := inj hD
    exact ⟨rfl, rfl⟩
  clear hD
  have hD := hx
  clear hx
  refine ax_Wp.brD hD rfl (fun _ hD => ?_) (fun _ hD => ?_)
  · refine ax_Wp.go (f' := (17, [some (.ref 5), some (.int p0)], [.int (nI 1)])) 2 rfl ?_
    obtain rfl := inj hD
    exact ax_Wp.dead kkv1 ⟨.inl rfl, ⟨.inr ⟨rfl, trivial⟩, trivial⟩⟩
  · refine ax_Wp.go (f' := (17, [some (.ref 5), some (.int p0)], [.int (nI 0)])) 1 rfl ?_
    obtain rfl := inj hD
    exact ax_Wp.dead kkv1 ⟨.inl rfl, ⟨.inr ⟨rfl, trivial⟩, trivial⟩⟩
def D34 (m : dM) (p0 : Int32) : Option (Int32) := Option.bind (lp (β := Int32) 3000 (fun (s1 : Int32 × Int32) => if (rI m 10 4) ≤ s1.2 then some (.inr s1.1) else (gI m 14 8 s1.2).bind fun (x3 : Int32) => Option.bind ((if x3 = ((nI 10) + p0) then (gI m 12 8 s1.2).bind fun (x5 : Int32) => some (s1.1 + x5) else some s1.1) : Option (Int32)) fun (v4 : Int32) => some (.inl (v4, s1.2 + (nI 1)))) (nI 0, nI 0)) fun (v2 : Int32) => some v2
set_option maxRecDepth 20000 in
theorem w_34 {X : Nat × (Nat → Int32)} {d : Nat} {m : dM} {p0 : Int32} {r : Int32} (hD : D34 m p0 = some r) : ax_Ev X (d + 1) 34 [.ref 10, .int p0] (stt m) (.inl (some (.int r))) (stt m) := by
  unfold D34 at hD
  show ax_Wp X (d + 0 + 1) 34 (0, [some (.ref 10), some (.int p0), none, none], []) (stt m) _
  refine ax_Wp.go (f' := (4, [some (.ref 10), some (.int p0), some (.int (nI 0)), some (.int (nI 0))], [])) 4 rfl ?_
  refine bnd hD (fun v2 hx hD => ?_)
  refine ax_Wp.jn (F := (40, [some (.ref 10), none, some (.int v2), none], [])) (hh := stt m) ?_ (fun kkv2 => ?_)
  · refine ax_Wp.go (f' := (41, [some (.ref 10), none, some (.int v2), none], [.int v2])) 1 rfl ?_
    obtain rfl := inj hD
    exact ax_Wp.ret rfl ⟨rfl, rfl⟩
  clear hD
  refine ax_Wp.lpD (fun (s1 : Int32 × Int32) => ((4, [some (.ref 10), some (.int p0), some (.int s1.1), some (.int s1.2)], []), stt m)) ?_ hx
  clear hx
  intro s1 v hD ks1
  refine ax_Wp.go (f' := (9, [some (.ref 10), some (.int p0), some (.int s1.1), some (.int s1.2)], [.int (rI m 10 4), .int s1.2])) 3 rfl ?_
  refine ax_Wp.brD hD rfl (fun _ hD => ?_) (fun _ hD => ?_)
  · obtain rfl := inj hD
    obtain rfl := ks1.o
    exact ax_Wp.dead kkv2 ⟨.inl rfl, ⟨.inr ⟨rfl, trivial⟩, ⟨.inl rfl, ⟨.inr ⟨rfl, trivial⟩, trivial⟩⟩⟩⟩
  · refine ax_Wp.go (f' := (17, [some (.ref 10), some (.int p0), some (.int s1.1), some (.int s1.2)], [.int s1.2, .ref 14])) 3 rfl ?_
    refine ax_Wp.rdI hD rfl rfl rfl (fun x3 hD => ?_)
    refine ax_Wp.go (f' := (22, [some (.ref 10), some (.int p0), some (.int s1.1), some (.int s1.2)], [.int ((nI 10) + p0), .int x3])) 3 rfl ?_
    refine bnd hD (fun v4 hx hD => ?_)
    refine ax_Wp.jn (F := (34, [some (.ref 10), some (.int p0), some (.int v4), some (.int s1.2)], [])) (hh := stt m) ?_ (fun kkv4 => ?_)
    · refine ax_Wp.go (f' := (4, [some (.ref 10), some (.int p0), some (.int v4), some (.int (s1.2 + (nI 1)))], [])) 2 rfl ?_
      obtain rfl := inj hD
      exact ks1.i
    clear hD
    have hD := hx
    clear hx
    refine ax_Wp.brD hD rfl (fun _ hD => ?_) (fun _ hD => ?_)
    · refine ax_Wp.go (f' := (31, [some (.ref 10), some (.int p0), some (.int s1.1), some (.int s1.2)], [.int s1.2, .ref 12, .int s1.1])) 4 rfl ?_
      refine ax_Wp.rdI hD rfl rfl rfl (fun x5 hD => ?_)
      refine ax_Wp.go (f' := (34, [some (.ref 10), some (.int p0), some (.int (s1.1 + x5)), some (.int s1.2)], [])) 2 rfl ?_
      obtain rfl := inj hD
      exact kkv4
    · obtain rfl := inj hD
      exact kkv4
def D129 (p0 : Int32) (p1 : Int32) : Option (Int32) := Option.bind ((if p1 = (nI 0) then some p0 else some ((nI 2) * p0)) : Option (Int32)) fun (v1 : Int32) => some v1
set_option maxRecDepth 20000 in
theorem w_129 {X : Nat × (Nat → Int32)} {d : Nat} {m : dM} {p0 : Int32} {p1 : Int32} {r : Int32} (hD : D129 p0 p1 = some r) : ax_Ev X (d + 1) 129 [.int p0, .int p1] (stt m) (.inl (some (.int r))) (stt m) := by
  unfold D129 at hD
  show ax_Wp X (d + 0 + 1) 129 (0, [some (.int p0), some (.int p1)], []) (stt m) _
  refine ax_Wp.go (f' := (1, [some (.int p0), some (.int p1)], [.int p1])) 1 rfl ?_
  refine bnd hD (fun v1 hx hD => ?_)
  refine ax_Wp.jn (F := (11, [none, none], [.int v1])) (hh := stt m) ?_ (fun kkv1 => ?_)
  · obtain rfl := inj hD
    exact ax_Wp.ret rfl ⟨rfl, rfl⟩
  clear hD
  have hD := hx
  clear hx
  refine ax_Wp.brD hD rfl (fun _ hD => ?_) (fun _ hD => ?_)
  · refine ax_Wp.go (f' := (11, [some (.int p0), some (.int p1)], [.int p0])) 1 rfl ?_
    obtain rfl := inj hD
    exact ax_Wp.dead kkv1 ⟨.inr ⟨rfl, trivial⟩, ⟨.inr ⟨rfl, trivial⟩, trivial⟩⟩
  · refine ax_Wp.go (f' := (11, [some (.int p0), some (.int p1)], [.int ((nI 2) * p0)])) 4 rfl ?_
    obtain rfl := inj hD
    exact ax_Wp.dead kkv1 ⟨.inr ⟨rfl, trivial⟩, ⟨.inr ⟨rfl, trivial⟩, trivial⟩⟩
def D63 (m : dM) (p0 : Int32) : Option (Int32) := Option.bind ((if p0 = (nI 0) then some (rI m 2 3) else some ((rI m 2 3) &&& ((rI m 2 2) ^^^ (-1)))) : Option (Int32)) fun (v1 : Int32) => some v1
set_option maxRecDepth 20000 in
theorem w_63 {X : Nat × (Nat → Int32)} {d : Nat} {m : dM} {p0 : Int32} {r : Int32} (hD : D63 m p0 = some r) : ax_Ev X (d + 1) 63 [.ref 2, .int p0] (stt m) (.inl (some (.int r))) (stt m) := by
  unfold D63 at hD
  show ax_Wp X (d + 0 + 1) 63 (0, [some (.ref 2), some (.int p0)], []) (stt m) _
  refine ax_Wp.go (f' := (1, [some (.ref 2), some (.int p0)], [.int p0])) 1 rfl ?_
  refine bnd hD (fun v1 hx hD => ?_)
  refine ax_Wp.jn (F := (22, [some (.ref 2), none], [.int v1])) (hh := stt m) ?_ (fun kkv1 => ?_)
  · obtain rfl := inj hD
    exact ax_Wp.ret rfl ⟨rfl, rfl⟩
  clear hD
  have hD := hx
  clear hx
  refine ax_Wp.brD hD rfl (fun _ hD => ?_) (fun _ hD => ?_)
  · refine ax_Wp.go (f' := (22, [some (.ref 2), some (.int p0)], [.int (rI m 2 3)])) 2 rfl ?_
    obtain rfl := inj hD
    exact ax_Wp.dead kkv1 ⟨.inl rfl, ⟨.inr ⟨rfl, trivial⟩, trivial⟩⟩
  · refine ax_Wp.go (f' := (22, [some (.ref 2), some (.int p0)], [.int ((rI m 2 3) &&& ((rI m 2 2) ^^^ (-1)))])) 8 rfl ?_
    obtain rfl := inj hD
    exact ax_Wp.dead kkv1 ⟨.inl rfl, ⟨.inr ⟨rfl, trivial⟩, trivial⟩⟩
def D64 (m : dM) (p0 : Int32) (p1 : Int32) : Option (Int32) := (D63 m p1).bind fun (x1 : Int32) => Option.bind ((if ((x1 >>> (p0 &&& nI 31)) &&& (nI 1)) = (nI 1) then some (nI 1) else some (nI 0)) : Option (Int32)) fun (v2 : Int32) => (gB v2).bind fun (b3 : Int32) => some b3
set_option maxRecDepth 20000 in
theorem w_64 {X : Nat × (Nat → Int32)} {d : Nat} {m : dM} {p0 : Int32} {p1 : Int32} {r : Int32} (hD : D64 m p0 p1 = some r) : ax_Ev X (d + 2) 64 [.ref 2, .int p0, .int p1] (stt m) (.inl (some (.int r))) (stt m) := by
  unfold D64 at hD
  show ax_Wp X (d + 1 + 1) 64 (0, [some (.ref 2), some (.int p0), some (.int p1)], []) (stt m) _
  refine ax_Wp.go (f' := (2, [some (.ref 2), some (.int p0), some (.int p1)], [.int p1, .ref 2])) 2 rfl ?_
  refine bnd hD (fun x1 hx hD => ?_)
  refine ax_Wp.callE (f' := (5, [some (.ref 2), some (.int p0), some (.int p1)], [])) rfl rfl (w_63 (d := d + 0) hx) rfl ?_
  refine ax_Wp.go (f' := (10, [some (.ref 2), some (.int p0), some (.int p1)], [.int (nI 1), .int ((x1 >>> (p0 &&& nI 31)) &&& (nI 1))])) 5 rfl ?_
  refine bnd hD (fun v2 hx hD => ?_)
  refine ax_Wp.jn (F := (18, [some (.ref 2), none, none], [.int v2])) (hh := stt m) ?_ (fun kkv2 => ?_)
  · refine ax_Wp.retB hD rfl (fun b3 hD => ?_)
    obtain rfl := inj hD
    exact ⟨rfl, rfl⟩
  clear hD
  have hD := hx
  clear hx
  refine ax_Wp.brD hD rfl (fun _ hD => ?_) (fun _ hD => ?_)
  · refine ax_Wp.go (f' := (18, [some (.ref 2), some (.int p0), some (.int p1)], [.int (nI 1)])) 2 rfl ?_
    obtain rfl := inj hD
    exact ax_Wp.dead kkv2 ⟨.inl rfl, ⟨.inr ⟨rfl, trivial⟩, ⟨.inr ⟨rfl, trivial⟩, trivial⟩⟩⟩
  · refine ax_Wp.go (f' := (18, [some (.ref 2), some (.int p0), some (.int p1)], [.int (nI 0)])) 1 rfl ?_
    obtain rfl := inj hD
    exact ax_Wp.dead kkv2 ⟨.inl rfl, ⟨.inr ⟨rfl, trivial⟩, ⟨.inr ⟨rfl, trivial⟩, trivial⟩⟩⟩
def D49 (m : dM) (p0 : Int32) : Option (Int32 × dM) := (D128 p0).bind fun (x1 : Int32) => if x1 = (nI 0) then some (nI 0, m) else (fI m 5 4 ((rI m 5 4) ^^^ ((nI 1) <<< (p0 &&& nI 31)))).bind fun (m2 : dM) => (D3 m2 p0).bind fun (x3 : Int32) => (gI m2 7 4 p0).bind fun (x4 : Int32) => (D59 m2 x4).bind fun (x5 : Int32) => Option.bind ((if x5 = (nI 0) then some m2 else (D64 m2 x4 x3).bind fun (x7 : Int32) => if x7 = (nI 0) then (D4 m2 p0).bind fun (r8 : Int32 × dM) => some r8.2 else some m2) : Option (dM)) fun (v6 : dM) => (gB x3).bind fun (b9 : Int32) => some (b9, v6)
set_option maxRecDepth 20000 in
theorem w_49 {X : Nat × (Nat → Int32)} {d : Nat} {m : dM} {p0 : Int32} {r : Int32 × dM} (hD : D49 m p0 = some r) : ax_Ev X (d + 3) 49 [.ref 1, .int p0] (stt m) (.inl (some (.int r.1))) (stt r.2) := by
  unfold D49 at hD
  show ax_Wp X (d + 2 + 1) 49 (0, [some (.ref 1), some (.int p0), none, none], []) (stt m) _
  refine ax_Wp.go (f' := (1, [some (.ref 1), some (.int p0), none, none], [.int p0])) 1 rfl ?_
  refine bnd hD (fun x1 hx hD => ?_)
  refine ax_Wp.callE (f' := (4, [some (.ref 1), some (.int p0), none, none], [])) rfl rfl (w_128 (d := d + 1) hx) rfl ?_
  refine ax_Wp.brD hD rfl (fun _ hD => ?_) (fun _ hD => ?_)
  · refine ax_Wp.go (f' := (8, [some (.ref 1), some (.int p0), none, none], [.int (nI 0)])) 1 rfl ?_
    obtain rfl := inj hD
    exact ax_Wp.ret rfl ⟨rfl, rfl⟩
  · refine ax_Wp.go (f' := (21, [some (.ref 1), some (.int p0), none, none], [.int ((rI m 5 4) ^^^ ((nI 1) <<< (p0 &&& nI 31))), .ref 5])) 8 rfl ?_
    refine ax_Wp.ptI hD rfl rfl rfl (fun m2 hD => ?_)
    refine ax_Wp.go (f' := (29, [some (.ref 1), some (.int p0), none, none], [.int p0, .ref 5])) 3 rfl ?_
    refine bnd hD (fun x3 hx hD => ?_)
    refine ax_Wp.callE (f' := (32, [some (.ref 1), some (.int p0), none, none], [])) rfl rfl (w_3 (d := d + 1) hx) rfl ?_
    refine ax_Wp.go (f' := (41, [some (.ref 1), some (.int p0), some (.int x3), none], [.int p0, .ref 7])) 5 rfl ?_
    refine ax_Wp.rdI hD rfl rfl rfl (fun x4 hD => ?_)
    refine ax_Wp.go (f' := (48, [some (.ref 1), some (.int p0), some (.int x3), some (.int x4)], [.int x4, .ref 2])) 4 rfl ?_
    refine bnd hD (fun x5 hx hD => ?_)
    refine ax_Wp.callE (f' := (51, [some (.ref 1), some (.int p0), some (.int x3), some (.int x4)], [])) rfl rfl (w_59 (d := d + 1) hx) rfl ?_
    refine bnd hD (fun v6 hx hD => ?_)
    refine ax_Wp.jn (F := (75, [some (.ref 1), none, some (.int x3), none], [])) (hh := stt v6) ?_ (fun kkv6 => ?_)
    · refine ax_Wp.go (f' := (76, [some (.ref 1), none, some (.int x3), none], [.int x3])) 1 rfl ?_
      refine ax_Wp.retB hD rfl (fun b9 hD => ?_)
      obtain rfl := inj hD
      exact ⟨rfl, rfl⟩
    clear hD
    have hD := hx
    clear hx
    refine ax_Wp.brD hD rfl (fun _ hD => ?_) (fun _ hD => ?_)
    · obtain rfl := inj hD
      exact ax_Wp.dead kkv6 ⟨.inl rfl, ⟨.inr ⟨rfl, trivial⟩, ⟨.inl rfl, ⟨.inr ⟨rfl, trivial⟩, trivial⟩⟩⟩⟩
    · refine ax_Wp.go (f' := (60, [some (.ref 1), some (.int p0), some (.int x3), some (.int x4)], [.int x3, .int x4, .ref 2])) 4 rfl ?_
      refine bnd hD (fun x7 hx hD => ?_)
      refine ax_Wp.callE (f' := (63, [some (.ref 1), some (.int p0), some (.int x3), some (.int x4)], [])) rfl rfl (w_64 (d := d + 0) hx) rfl ?_
      refine ax_Wp.brD hD rfl (fun _ hD => ?_) (fun _ hD => ?_)
      · refine ax_Wp.go (f' := (71, [some (.ref 1), some (.int p0), some (.int x3), some (.int x4)], [.int p0, .ref 5])) 3 rfl ?_
        refine bnd hD (fun r8 hx hD => ?_)
        refine ax_Wp.callE (f' := (74, [some (.ref 1), some (.int p0), some (.int x3), some (.int x4)], [])) rfl rfl (w_4 (d := d + 0) hx) rfl ?_
        refine ax_Wp.go (f' := (75, [some (.ref 1), some (.int p0), some (.int x3), some (.int x4)], [])) 1 rfl ?_
        obtain rfl := inj hD
        exact ax_Wp.dead kkv6 ⟨.inl rfl, ⟨.inr ⟨rfl, trivial⟩, ⟨.inl rfl, ⟨.inr ⟨rfl, trivial⟩, trivial⟩⟩⟩⟩
      · obtain rfl := inj hD
        exact ax_Wp.dead kkv6 ⟨.inl rfl, ⟨.inr ⟨rfl, trivial⟩, ⟨.inl rfl, ⟨.inr ⟨rfl, trivial⟩, trivial⟩⟩⟩⟩
def D73 (m : dM) (p0 : Int32) : Option ((Int32 ⊕ Nat) × dM) := cT (D124 p0) m (fun (x1 : Unit) => (D3 m p0).bind fun (x4 : Int32) => Option.bind ((if x4 = (nI 0) then some (nI 1) else some (nI 0)) : Option (Int32)) fun (v5 : Int32) => (D34 m p0).bind fun (x6 : Int32) => (D129 (rI m 1 5) v5).bind fun (x7 : Int32) => if x6 ≤ x7 then (D131 m).bind fun (r8 : dM) => (D49 r8 p0).bind fun (r9 : Int32 × dM) => (gB r9.1).bind fun (b10 : Int32) => some (.inl b10, r9.2) else some (.inr 2, (bump m))) (fun (j2 : Nat) (m3 : dM) => some (.inr j2, m3))
set_option maxRecDepth 20000 in
theorem w_73 {X : Nat × (Nat → Int32)} {d : Nat} {m : dM} {p0 : Int32} {r : (Int32 ⊕ Nat) × dM} (hD : D73 m p0 = some r) : ax_Ev X (d + 7) 73 [.ref 0, .int p0] (stt m) (oT (fun x => some (.int x)) r.1) (stt r.2) := by
  unfold D73 at hD
  show ax_Wp X (d + 6 + 1) 73 (0, [some (.ref 0), some (.int p0), none], []) (stt m) _
  refine ax_Wp.go (f' := (1, [some (.ref 0), some (.int p0), none], [.int p0])) 1 rfl ?_
  refine cT.sp hD (fun x1 hx hD => ?_) (fun j2 hx hD => ?_)
  · refine ax_Wp.callE (f' := (4, [some (.ref 0), some (.int p0), none], [])) rfl rfl (w_124 (d := d + 0) hx) rfl ?_
    refine ax_Wp.go (f' := (12, [some (.ref 0), some (.int p0), none], [.int p0, .ref 5])) 4 rfl ?_
    refine bnd hD (fun x4 hx hD => ?_)
    refine ax_Wp.callE (f' := (15, [some (.ref 0), some (.int p0), none], [])) rfl rfl (w_3 (d := d + 5) hx) rfl ?_
    refine bnd hD (fun v5 hx hD => ?_)
    refine ax_Wp.jn (F := (23, [some (.ref 0), some (.int p0), none], [.int v5])) (hh := stt m) ?_ (fun kkv5 => ?_)
    · refine ax_Wp.go (f' := (32, [some (.ref 0), some (.int p0), some (.int v5)], [.int p0, .ref 10])) 5 rfl ?_
      refine bnd hD (fun x6 hx hD => ?_)
      refine ax_Wp.callE (f' := (35, [some (.ref 0), some (.int p0), some (.int v5)], [])) rfl rfl (w_34 (d := d + 5) hx) rfl ?_
      refine ax_Wp.go (f' := (43, [some (.ref 0), some (.int p0), some (.int v5)], [.int v5, .int (rI m 1 5), .int x6])) 4 rfl ?_
      refine bnd hD (fun x7 hx hD => ?_)
      refine ax_Wp.callE (f' := (46, [some (.ref 0), some (.int p0), some (.int v5)], [.int x6])) rfl rfl (w_129 (d := d + 5) hx) rfl ?_
      refine ax_Wp.brD hD rfl (fun _ hD => ?_) (fun _ hD => ?_)
      · refine ax_Wp.go (f' := (60, [some (.ref 0), some (.int p0), some (.int v5)], [.ref 0])) 1 rfl ?_
        refine bnd hD (fun r8 hx hD => ?_)
        refine ax_Wp.callE (f' := (63, [some (.ref 0), some (.int p0), some (.int v5)], [])) rfl rfl (w_131 (d := d + 3) hx) rfl ?_
        refine ax_Wp.go (f' := (68, [some (.ref 0), some (.int p0), some (.int v5)], [.int p0, .ref 1])) 3 rfl ?_
        refine bnd hD (fun r9 hx hD => ?_)
        refine ax_Wp.callE (f' := (71, [some (.ref 0), some (.int p0), some (.int v5)], [])) rfl rfl (w_49 (d := d + 3) hx) rfl ?_
        refine ax_Wp.retB hD rfl (fun b10 hD => ?_)
        obtain rfl := inj hD
        exact ⟨rfl, rfl⟩
      · obtain rfl := inj hD
        exact ax_Wp.thr rfl (ax_six _ rfl) ⟨rfl, rfl⟩
    clear hD
    have hD := hx
    clear hx
    refine ax_Wp.brD hD rfl (fun _ hD => ?_) (fun _ hD => ?_)
    · refine ax_Wp.go (f' := (23, [some (.ref 0), some (.int p0), none], [.int (nI 1)])) 2 rfl ?_
      obtain rfl := inj hD
      exact kkv5
    · refine ax_Wp.go (f' := (23, [some (.ref 0), some (.int p0), none], [.int (nI 0)])) 1 rfl ?_
      obtain rfl := inj hD
      exact kkv5
  · obtain rfl := inj hD
    exact ax_Wp.callX (f' := (4, [some (.ref 0), some (.int p0), none], [])) rfl rfl (w_124 (d := d + 0) hx) rfl ⟨rfl, rfl⟩
def D248 (m : dM) (p0 : Int32) : Option (Int32 × dM) := cG (D73 m p0) (fun (x1 : Int32) (m4 : dM) => Option.bind ((if x1 = (nI 0) then some (0 : Int64) else some (1 : Int64)) : Option (Int64)) fun (v5 : Int64) => (sL m4 138 1 (nI 0) v5).bind fun (m6 : dM) => some (nI 0, m6)) (fun (j2 : Nat) (m3 : dM) => if j2 = 0 then some (nI 1, m3) else if j2 = 2 then some (nI 2, m3) else none)
set_option maxRecDepth 20000 in
theorem w_248 {X : Nat × (Nat → Int32)} {d : Nat} {m : dM} {p0 : Int32} {r : Int32 × dM} (hD : D248 m p0 = some r) : ax_Ev X (d + 8) 248 [.ref 0, .int p0, .ref 138] (stt m) (.inl (some (.int r.1))) (stt r.2) := by
  unfold D248 at hD
  show ax_Wp X (d + 7 + 1) 248 (0, [some (.ref 0), some (.int p0), some (.ref 138), none], []) (stt m) _
  refine ax_Wp.go (f' := (4, [some (.ref 0), some (.int p0), some (.ref 138), none], [.int p0, .ref 0, .int (nI 0), .ref 138])) 4 rfl ?_
  refine cG.sp hD (fun x1 m4 hx hD => ?_) (fun j2 m3 hx hD => ?_)
  · refine ax_Wp.callE (f' := (7, [some (.ref 0), some (.int p0), some (.ref 138), none], [.int (nI 0), .ref 138])) rfl rfl (w_73 (d := d + 0) hx) rfl ?_
    refine bnd hD (fun v5 hx hD => ?_)
    refine ax_Wp.jn (F := (15, [some (.ref 0), none, some (.ref 138), none], [.long v5, .int (nI 0), .ref 138])) (hh := stt m4) ?_ (fun kkv5 => ?_)
    · refine ax_Wp.wrL hD rfl rfl (fun _ => rfl) (fun m6 hD => ?_)
      refine ax_Wp.go (f' := (26, [some (.ref 0), none, some (.ref 138), none], [.int (nI 0)])) 2 rfl ?_
      obtain rfl := inj hD
      exact ax_Wp.ret rfl ⟨rfl, rfl⟩
    clear hD
    have hD := hx
    clear hx
    refine ax_Wp.brD hD rfl (fun _ hD => ?_) (fun _ hD => ?_)
    · refine ax_Wp.go (f' := (15, [some (.ref 0), some (.int p0), some (.ref 138), none], [.long (0 : Int64), .int (nI 0), .ref 138])) 1 rfl ?_
      obtain rfl := inj hD
      exact ax_Wp.dead kkv5 ⟨.inl rfl, ⟨.inr ⟨rfl, trivial⟩, ⟨.inl rfl, ⟨.inl rfl, trivial⟩⟩⟩⟩
    · refine ax_Wp.go (f' := (15, [some (.ref 0), some (.int p0), some (.ref 138), none], [.long (1 : Int64), .int (nI 0), .ref 138])) 2 rfl ?_
      obtain rfl := inj hD
      exact ax_Wp.dead kkv5 ⟨.inl rfl, ⟨.inr ⟨rfl, trivial⟩, ⟨.inl rfl, ⟨.inl rfl, trivial⟩⟩⟩⟩
  · refine swD hD (fun e hD => ?_) (fun _ hD => ?_)
    · cases e
      refine ax_Wp.callH (f' := (7, [some (.ref 0), some (.int p0), some (.ref 138), none], [.int (nI 0), .ref 138])) (pc2 := 20) (i := 3) rfl rfl (w_73 (d := d + 0) hx) rfl rfl rfl ?_
      refine ax_Wp.go (f' := (21, [some (.ref 0), some (.int p0), some (.ref 138), none], [.int (nI 1)])) 1 rfl ?_
      obtain rfl := inj hD
      exact ax_Wp.ret rfl ⟨rfl, rfl⟩
    refine swD hD (fun e hD => ?_) (fun _ hD => ?_)
    · cases e
      refine ax_Wp.callH (f' := (7, [some (.ref 0), some (.int p0), some (.ref 138), none], [.int (nI 0), .ref 138])) (pc2 := 23) (i := 3) rfl rfl (w_73 (d := d + 0) hx) rfl rfl rfl ?_
      refine ax_Wp.go (f' := (24, [some (.ref 0), some (.int p0), some (.ref 138), none], [.int (nI 2)])) 1 rfl ?_
      obtain rfl := inj hD
      exact ax_Wp.ret rfl ⟨rfl, rfl⟩
    cases hD
def D74 (m : dM) (p0 : Int32) : Option ((Int32 ⊕ Nat) × dM) := if p0 < (nI 1) then some (.inr 1, (bump m)) else if p0 ≤ (nI 9) then lp (β := (Int32 ⊕ Nat) × dM) 3000 (fun (s1 : Int32) => if (nI 4) ≤ s1 then (D131 m).bind fun (r2 : dM) => (fI r2 1 5 p0).bind fun (m3 : dM) => some (.inr (.inl (rI r2 1 5), m3)) else (D34 m s1).bind fun (x4 : Int32) => (D3 m s1).bind fun (x5 : Int32) => (D129 p0 x5).bind fun (x6 : Int32) => if x4 ≤ x6 then some (.inl (s1 + (nI 1))) else some (.inr (.inr 2, (bump m)))) (nI 0) else some (.inr 1, (bump m))
set_option maxRecDepth 20000 in
theorem w_74 {X : Nat × (Nat → Int32)} {d : Nat} {m : dM} {p0 : Int32} {r : (Int32 ⊕ Nat) × dM} (hD : D74 m p0 = some r) : ax_Ev X (d + 6) 74 [.ref 0, .int p0] (stt m) (oT (fun x => some (.int x)) r.1) (stt r.2) := by
  unfold D74 at hD
  show ax_Wp X (d + 5 + 1) 74 (0, [some (.ref 0), some (.int p0), none], []) (stt m) _
  refine ax_Wp.go (f' := (2, [some (.ref 0), some (.int p0), none], [.int (nI 1), .int p0])) 2 rfl ?_
  refine ax_Wp.brD hD rfl (fun _ hD => ?_) (fun _ hD => ?_)
  · obtain rfl := inj hD
    exact ax_Wp.thr rfl (ax_six _ rfl) ⟨rfl, rfl⟩
  · refine ax_Wp.go (f' := (8, [some (.ref 0), some (.int p0), none], [.int (nI 9), .int p0])) 2 rfl ?_
    refine ax_Wp.brD hD rfl (fun _ hD => ?_) (fun _ hD => ?_)
    · refine ax_Wp.go (f' := (23, [some (.ref 0), some (.int p0), some (.int (nI 0))], [])) 2 rfl ?_
      refine ax_Wp.lpD (fun (s1 : Int32) => ((23, [some (.ref 0), some (.int p0), some (.int s1)], []), stt m)) ?_ hD
      clear hD
      intro s1 v hD ks1
      refine ax_Wp.go (f' := (25, [some (.ref 0), some (.int p0), some (.int s1)], [.int (nI 4), .int s1])) 2 rfl ?_
      refine ax_Wp.brD hD rfl (fun _ hD => ?_) (fun _ hD => ?_)
      · refine ax_Wp.go (f' := (74, [some (.ref 0), some (.int p0), some (.int s1)], [.ref 0])) 1 rfl ?_
        refine bnd hD (fun r2 hx hD => ?_)
        refine ax_Wp.callE (f' := (77, [some (.ref 0), some (.int p0), some (.int s1)], [])) rfl rfl (w_131 (d := d + 2) hx) rfl ?_
        refine ax_Wp.go (f' := (90, [some (.ref 0), some (.int p0), some (.int (rI r2 1 5))], [.int p0, .ref 1])) 7 rfl ?_
        refine ax_Wp.ptI hD rfl rfl rfl (fun m3 hD => ?_)
        refine ax_Wp.go (f' := (94, [some (.ref 0), some (.int p0), some (.int (rI r2 1 5))], [.int (rI r2 1 5)])) 1 rfl ?_
        obtain rfl := inj hD
        obtain rfl := ks1.o
        exact ax_Wp.ret rfl ⟨rfl, rfl⟩
      · refine ax_Wp.go (f' := (36, [some (.ref 0), some (.int p0), some (.int s1)], [.int s1, .ref 10])) 4 rfl ?_
        refine bnd hD (fun x4 hx hD => ?_)
        refine ax_Wp.callE (f' := (39, [some (.ref 0), some (.int p0), some (.int s1)], [])) rfl rfl (w_34 (d := d + 4) hx) rfl ?_
        refine ax_Wp.go (f' := (48, [some (.ref 0), some (.int p0), some (.int s1)], [.int s1, .ref 5, .int p0, .int x4])) 5 rfl ?_
        refine bnd hD (fun x5 hx hD => ?_)
        refine ax_Wp.callE (f' := (51, [some (.ref 0), some (.int p0), some (.int s1)], [.int p0, .int x4])) rfl rfl (w_3 (d := d + 4) hx) rfl ?_
        refine bnd hD (fun x6 hx hD => ?_)
        refine ax_Wp.callE (f' := (54, [some (.ref 0), some (.int p0), some (.int s1)], [.int x4])) rfl rfl (w_129 (d := d + 4) hx) rfl ?_
        refine ax_Wp.brD hD rfl (fun _ hD => ?_) (fun _ hD => ?_)
        · refine ax_Wp.go (f' := (23, [some (.ref 0), some (.int p0), some (.int (s1 + (nI 1)))], [])) 2 rfl ?_
          obtain rfl := inj hD
          exact ks1.i
        · obtain rfl := inj hD
          obtain rfl := ks1.o
          exact ax_Wp.thr rfl (ax_six _ rfl) ⟨rfl, rfl⟩
    · obtain rfl := inj hD
      exact ax_Wp.thr rfl (ax_six _ rfl) ⟨rfl, rfl⟩
def D249 (m : dM) (p0 : Int32) : Option (Int32 × dM) := cG (D74 m p0) (fun (x1 : Int32) (m4 : dM) => (sL m4 138 1 (nI 0) x1.toInt64).bind fun (m5 : dM) => some (nI 0, m5)) (fun (j2 : Nat) (m3 : dM) => if j2 = 1 then some (nI 1, m3) else if j2 = 2 then some (nI 2, m3) else none)
set_option maxRecDepth 20000 in
theorem w_249 {X : Nat × (Nat → Int32)} {d : Nat} {m : dM} {p0 : Int32} {r : Int32 × dM} (hD : D249 m p0 = some r) : ax_Ev X (d + 7) 249 [.ref 0, .int p0, .ref 138] (stt m) (.inl (some (.int r.1))) (stt r.2) := by
  unfold D249 at hD
  show ax_Wp X (d + 6 + 1) 249 (0, [some (.ref 0), some (.int p0), some (.ref 138), none], []) (stt m) _
  refine ax_Wp.go (f' := (4, [some (.ref 0), some (.int p0), some (.ref 138), none], [.int p0, .ref 0, .int (nI 0), .ref 138])) 4 rfl ?_
  refine cG.sp hD (fun x1 m4 hx hD => ?_) (fun j2 m3 hx hD => ?_)
  · refine ax_Wp.callE (f' := (7, [some (.ref 0), some (.int p0), some (.ref 138), none], [.int (nI 0), .ref 138])) rfl rfl (w_74 (d := d + 0) hx) rfl ?_
    refine ax_Wp.go (f' := (8, [some (.ref 0), some (.int p0), some (.ref 138), none], [.long x1.toInt64, .int (nI 0), .ref 138])) 1 rfl ?_
    refine ax_Wp.wrL hD rfl rfl (fun _ => rfl) (fun m5 hD => ?_)
    refine ax_Wp.go (f' := (19, [some (.ref 0), some (.int p0), some (.ref 138), none], [.int (nI 0)])) 2 rfl ?_
    obtain rfl := inj hD
    exact ax_Wp.ret rfl ⟨rfl, rfl⟩
  · refine swD hD (fun e hD => ?_) (fun _ hD => ?_)
    · cases e
      refine ax_Wp.callH (f' := (7, [some (.ref 0), some (.int p0), some (.ref 138), none], [.int (nI 0), .ref 138])) (pc2 := 13) (i := 3) rfl rfl (w_74 (d := d + 0) hx) rfl rfl rfl ?_
      refine ax_Wp.go (f' := (14, [some (.ref 0), some (.int p0), some (.ref 138), none], [.int (nI 1)])) 1 rfl ?_
      obtain rfl := inj hD
      exact ax_Wp.ret rfl ⟨rfl, rfl⟩
    refine swD hD (fun e hD => ?_) (fun _ hD => ?_)
    · cases e
      refine ax_Wp.callH (f' := (7, [some (.ref 0), some (.int p0), some (.ref 138), none], [.int (nI 0), .ref 138])) (pc2 := 16) (i := 3) rfl rfl (w_74 (d := d + 0) hx) rfl rfl rfl ?_
      refine ax_Wp.go (f' := (17, [some (.ref 0), some (.int p0), some (.ref 138), none], [.int (nI 2)])) 1 rfl ?_
      obtain rfl := inj hD
      exact ax_Wp.ret rfl ⟨rfl, rfl⟩
    cases hD
def D30 (m : dM) (p0 : Int32) (p1 : Int32) (p2 : Int32) (p3 : Int32) : Option (Int32 × dM) := if (rI m 10 4) < (nI 8) then (sI m 14 8 (rI m 10 4) p0).bind fun (m1 : dM) => (sI m1 11 8 (rI m 10 4) p1).bind fun (m2 : dM) => (sI m2 12 8 (rI m 10 4) p2).bind fun (m3 : dM) => (sI m3 13 8 (rI m 10 4) p3).bind fun (m4 : dM) => (fI m4 10 4 ((rI m4 10 4) + (nI 1))).bind fun (m5 : dM) => some (rI m 10 4, m5) else some ((-1), m)
set_option maxRecDepth 20000 in
theorem w_30 {X : Nat × (Nat → Int32)} {d : Nat} {m : dM} {p0 : Int32} {p1 : Int32} {p2 : Int32} {p3 : Int32} {r : Int32 × dM} (hD : D30 m p0 p1 p2 p3 = some r) : ax_Ev X (d + 1) 30 [.ref 10, .int p0, .int p1, .int p2, .int p3] (stt m) (.inl (some (.int r.1))) (stt r.2) := by
  unfold D30 at hD
  show ax_Wp X (d + 0 + 1) 30 (0, [some (.ref 10), some (.int p0), some (.int p1), some (.int p2), some (.int p3), none], []) (stt m) _
  refine ax_Wp.go (f' := (10, [some (.ref 10), some (.int p0), some (.int p1), some (.int p2), some (.int p3), some (.int (rI m 10 4))], [.int (nI 8), .int (rI m 10 4)])) 5 rfl ?_
  refine ax_Wp.brD hD rfl (fun _ hD => ?_) (fun _ hD => ?_)
  · refine ax_Wp.go (f' := (22, [some (.ref 10), some (.int p0), some (.int p1), some (.int p2), some (.int p3), some (.int (rI m 10 4))], [.int p0, .int (rI m 10 4), .ref 14])) 4 rfl ?_
    refine ax_Wp.wrI hD rfl rfl (fun _ => rfl) (fun m1 hD => ?_)
    refine ax_Wp.go (f' := (30, [some (.ref 10), some (.int p0), some (.int p1), some (.int p2), some (.int p3), some (.int (rI m 10 4))], [.int p1, .int (rI m 10 4), .ref 11])) 4 rfl ?_
    refine ax_Wp.wrI hD rfl rfl (fun _ => rfl) (fun m2 hD => ?_)
    refine ax_Wp.go (f' := (38, [some (.ref 10), some (.int p0), some (.int p1), some (.int p2), some (.int p3), some (.int (rI m 10 4))], [.int p2, .int (rI m 10 4), .ref 12])) 4 rfl ?_
    refine ax_Wp.wrI hD rfl rfl (fun _ => rfl) (fun m3 hD => ?_)
    refine ax_Wp.go (f' := (47, [some (.ref 10), some (.int p0), some (.int p1), some (.int p2), some (.int p3), some (.int (rI m 10 4))], [.int p3, .int (rI m 10 4), .ref 13])) 4 rfl ?_
    refine ax_Wp.wrI hD rfl rfl (fun _ => rfl) (fun m4 hD => ?_)
    refine ax_Wp.go (f' := (55, [some (.ref 10), some (.int p0), some (.int p1), some (.int p2), some (.int p3), some (.int (rI m 10 4))], [.int ((rI m4 10 4) + (nI 1)), .ref 10])) 5 rfl ?_
    refine ax_Wp.ptI hD rfl rfl rfl (fun m5 hD => ?_)
    refine ax_Wp.go (f' := (60, [some (.ref 10), some (.int p0), some (.int p1), some (.int p2), some (.int p3), some (.int (rI m 10 4))], [.int (rI m 10 4)])) 1 rfl ?_
    obtain rfl := inj hD
    exact ax_Wp.ret rfl ⟨rfl, rfl⟩
  · refine ax_Wp.go (f' := (14, [some (.ref 10), some (.int p0), some (.int p1), some (.int p2), some (.int p3), some (.int (rI m 10 4))], [.int (-1)])) 1 rfl ?_
    obtain rfl := inj hD
    exact ax_Wp.ret rfl ⟨rfl, rfl⟩
def D75 (m : dM) (p0 : Int32) (p1 : Int32) (p2 : Int32) (p3 : Int32) : Option ((Int32 ⊕ Nat) × dM) := cT (D123 p0) m (fun (x1 : Unit) => cT (D123 p1) m (fun (x4 : Unit) => if p0 = p1 then some (.inr 1, (bump m)) else if p2 < (nI 1) then some (.inr 1, (bump m)) else if (nI 5) < p2 then some (.inr 1, (bump m)) else if p3 < (nI 1) then some (.inr 1, (bump m)) else if p3 ≤ (nI 9) then if (rI m 10 4) < (nI 8) then (D131 m).bind fun (r7 : dM) => (D30 r7 p0 p1 p2 p3).bind fun (r8 : Int32 × dM) => (D43 r8.2).bind fun (r9 : dM) => some (.inl r8.1, r9) else some (.inr 2, (bump m)) else some (.inr 1, (bump m))) (fun (j5 : Nat) (m6 : dM) => some (.inr j5, m6))) (fun (j2 : Nat) (m3 : dM) => some (.inr j2, m3))
set_option maxRecDepth 20000 in
theorem w_75 {X : Nat × (Nat → Int32)} {d : Nat} {m : dM} {p0 : Int32} {p1 : Int32} {p2 : Int32} {p3 : Int32} {r : (Int32 ⊕ Nat) × dM} (hD : D75 m p0 p1 p2 p3 = some r) : ax_Ev X (d + 7) 75 [.ref 0, .int p0, .int p1, .int p2, .int p3] (stt m) (oT (fun x => some (.int x)) r.1) (stt r.2) := by
  unfold D75 at hD
  show ax_Wp X (d + 6 + 1) 75 (0, [some (.ref 0), some (.int p0), some (.int p1), some (.int p2), some (.int p3), none], []) (stt m) _
  refine ax_Wp.go (f' := (1, [some (.ref 0), some (.int p0), some (.int p1), some (.int p2), some (.int p3), none], [.int p0])) 1 rfl ?_
  refine cT.sp hD (fun x1 hx hD => ?_) (fun j2 hx hD => ?_)
  · refine ax_Wp.callE (f' := (4, [some (.ref 0), some (.int p0), some (.int p1), some (.int p2), some (.int p3), none], [])) rfl rfl (w_123 (d := d + 0) hx) rfl ?_
    refine ax_Wp.go (f' := (5, [some (.ref 0), some (.int p0), some (.int p1), some (.int p2), some (.int p3), none], [.int p1])) 1 rfl ?_
    refine cT.sp hD (fun x4 hx hD => ?_) (fun j5 hx hD => ?_)
    · refine ax_Wp.callE (f' := (8, [some (.ref 0), some (.int p0), some (.int p1), some (.int p2), some (.int p3), none], [])) rfl rfl (w_123 (d := d + 0) hx) rfl ?_
      refine ax_Wp.go (f' := (10, [some (.ref 0), some (.int p0), some (.int p1), some (.int p2), some (.int p3), none], [.int p1, .int p0])) 2 rfl ?_
      refine ax_Wp.brD hD rfl (fun _ hD => ?_) (fun _ hD => ?_)
      · obtain rfl := inj hD
        exact ax_Wp.thr rfl (ax_six _ rfl) ⟨rfl, rfl⟩
      · refine ax_Wp.go (f' := (15, [some (.ref 0), some (.int p0), some (.int p1), some (.int p2), some (.int p3), none], [.int (nI 1), .int p2])) 2 rfl ?_
        refine ax_Wp.brD hD rfl (fun _ hD => ?_) (fun _ hD => ?_)
        · obtain rfl := inj hD
          exact ax_Wp.thr rfl (ax_six _ rfl) ⟨rfl, rfl⟩
        · refine ax_Wp.go (f' := (20, [some (.ref 0), some (.int p0), some (.int p1), some (.int p2), some (.int p3), none], [.int (nI 5), .int p2])) 2 rfl ?_
          refine ax_Wp.brD hD rfl (fun _ hD => ?_) (fun _ hD => ?_)
          · obtain rfl := inj hD
            exact ax_Wp.thr rfl (ax_six _ rfl) ⟨rfl, rfl⟩
          · refine ax_Wp.go (f' := (26, [some (.ref 0), some (.int p0), some (.int p1), some (.int p2), some (.int p3), none], [.int (nI 1), .int p3])) 2 rfl ?_
            refine ax_Wp.brD hD rfl (fun _ hD => ?_) (fun _ hD => ?_)
            · obtain rfl := inj hD
              exact ax_Wp.thr rfl (ax_six _ rfl) ⟨rfl, rfl⟩
            · refine ax_Wp.go (f' := (33, [some (.ref 0), some (.int p0), some (.int p1), some (.int p2), some (.int p3), none], [.int (nI 9), .int p3])) 2 rfl ?_
              refine ax_Wp.brD hD rfl (fun _ hD => ?_) (fun _ hD => ?_)
              · refine ax_Wp.go (f' := (58, [some (.ref 0), some (.int p0), some (.int p1), some (.int p2), some (.int p3), none], [.int (nI 8), .int (rI m 10 4)])) 5 rfl ?_
                refine ax_Wp.brD hD rfl (fun _ hD => ?_) (fun _ hD => ?_)
                · refine ax_Wp.go (f' := (72, [some (.ref 0), some (.int p0), some (.int p1), some (.int p2), some (.int p3), none], [.ref 0])) 1 rfl ?_
                  refine bnd hD (fun r7 hx hD => ?_)
                  refine ax_Wp.callE (f' := (75, [some (.ref 0), some (.int p0), some (.int p1), some (.int p2), some (.int p3), none], [])) rfl rfl (w_131 (d := d + 3) hx) rfl ?_
                  refine ax_Wp.go (f' := (87, [some (.ref 0), some (.int p0), some (.int p1), some (.int p2), some (.int p3), none], [.int p3, .int p2, .int p1, .int p0, .ref 10])) 7 rfl ?_
                  refine bnd hD (fun r8 hx hD => ?_)
                  refine ax_Wp.callE (f' := (90, [some (.ref 0), some (.int p0), some (.int p1), some (.int p2), some (.int p3), none], [])) rfl rfl (w_30 (d := d + 5) hx) rfl ?_
                  refine ax_Wp.go (f' := (96, [some (.ref 0), some (.int p0), some (.int p1), some (.int p2), some (.int p3), some (.int r8.1)], [.ref 1])) 3 rfl ?_
                  refine bnd hD (fun r9 hx hD => ?_)
                  refine ax_Wp.callE (f' := (99, [some (.ref 0), some (.int p0), some (.int p1), some (.int p2), some (.int p3), some (.int r8.1)], [])) rfl rfl (w_43 (d := d + 4) hx) rfl ?_
                  refine ax_Wp.go (f' := (101, [some (.ref 0), some (.int p0), some (.int p1), some (.int p2), some (.int p3), some (.int r8.1)], [.int r8.1])) 1 rfl ?_
                  obtain rfl := inj hD
                  exact ax_Wp.ret rfl ⟨rfl, rfl⟩
                · obtain rfl := inj hD
                  exact ax_Wp.thr rfl (ax_six _ rfl) ⟨rfl, rfl⟩
              · obtain rfl := inj hD
                exact ax_Wp.thr rfl (ax_six _ rfl) ⟨rfl, rfl⟩
    · obtain rfl := inj hD
      exact ax_Wp.callX (f' := (8, [some (.ref 0), some (.int p0), some (.int p1), some (.int p2), some (.int p3), none], [])) rfl rfl (w_123 (d := d + 0) hx) rfl ⟨rfl, rfl⟩
  · obtain rfl := inj hD
    exact ax_Wp.callX (f' := (4, [some (.ref 0), some (.int p0), some (.int p1), some (.int p2), some (.int p3), none], [])) rfl rfl (w_123 (d := d + 0) hx) rfl ⟨rfl, rfl⟩
def D250 (m : dM) (p0 : Int32) (p1 : Int32) (p2 : Int32) (p3 : Int32) : Option (Int32 × dM) := cG (D75 m p0 p1 p2 p3) (fun (x1 : Int32) (m4 : dM) => (sL m4 138 1 (nI 0) x1.toInt64).bind fun (m5 : dM) => some (nI 0, m5)) (fun (j2 : Nat) (m3 : dM) => if j2 = 0 then some (nI 1, m3) else if j2 = 1 then some (nI 2, m3) else if j2 = 2 then some (nI 3, m3) else none)
set_option maxRecDepth 20000 in
theorem w_250 {X : Nat × (Nat → Int32)} {d : Nat} {m : dM} {p0 : Int32} {p1 : Int32} {p2 : Int32} {p3 : Int32} {r : Int32 × dM} (hD : D250 m p0 p1 p2 p3 = some r) : ax_Ev X (d + 8) 250 [.ref 0, .int p0, .int p1, .int p2, .int p3, .ref 138] (stt m) (.inl (some (.int r.1))) (stt r.2) := by
  unfold D250 at hD
  show ax_Wp X (d + 7 + 1) 250 (0, [some (.ref 0), some (.int p0), some (.int p1), some (.int p2), some (.int p3), some (.ref 138), none], []) (stt m) _
  refine ax_Wp.go (f' := (9, [some (.ref 0), some (.int p0), some (.int p1), some (.int p2), some (.int p3), some (.ref 138), none], [.int p3, .int p2, .int p1, .int p0, .ref 0, .int (nI 0), .ref 138])) 7 rfl ?_
  refine cG.sp hD (fun x1 m4 hx hD => ?_) (fun j2 m3 hx hD => ?_)
  · refine ax_Wp.callE (f' := (12, [some (.ref 0), some (.int p0), some (.int p1), some (.int p2), some (.int p3), some (.ref 138), none], [.int (nI 0), .ref 138])) rfl rfl (w_75 (d := d + 0) hx) rfl ?_
    refine ax_Wp.go (f' := (13, [some (.ref 0), some (.int p0), some (.int p1), some (.int p2), some (.int p3), some (.ref 138), none], [.long x1.toInt64, .int (nI 0), .ref 138])) 1 rfl ?_
    refine ax_Wp.wrL hD rfl rfl (fun _ => rfl) (fun m5 hD => ?_)
    refine ax_Wp.go (f' := (30, [some (.ref 0), some (.int p0), some (.int p1), some (.int p2), some (.int p3), some (.ref 138), none], [.int (nI 0)])) 2 rfl ?_
    obtain rfl := inj hD
    exact ax_Wp.ret rfl ⟨rfl, rfl⟩
  · refine swD hD (fun e hD => ?_) (fun _ hD => ?_)
    · cases e
      refine ax_Wp.callH (f' := (12, [some (.ref 0), some (.int p0), some (.int p1), some (.int p2), some (.int p3), some (.ref 138), none], [.int (nI 0), .ref 138])) (pc2 := 19) (i := 6) rfl rfl (w_75 (d := d + 0) hx) rfl rfl rfl ?_
      refine ax_Wp.go (f' := (20, [some (.ref 0), some (.int p0), some (.int p1), some (.int p2), some (.int p3), some (.ref 138), none], [.int (nI 1)])) 1 rfl ?_
      obtain rfl := inj hD
      exact ax_Wp.ret rfl ⟨rfl, rfl⟩
    refine swD hD (fun e hD => ?_) (fun _ hD => ?_)
    · cases e
      refine ax_Wp.callH (f' := (12, [some (.ref 0), some (.int p0), some (.int p1), some (.int p2), some (.int p3), some (.ref 138), none], [.int (nI 0), .ref 138])) (pc2 := 23) (i := 6) rfl rfl (w_75 (d := d + 0) hx) rfl rfl rfl ?_
      refine ax_Wp.go (f' := (24, [some (.ref 0), some (.int p0), some (.int p1), some (.int p2), some (.int p3), some (.ref 138), none], [.int (nI 2)])) 1 rfl ?_
      obtain rfl := inj hD
      exact ax_Wp.ret rfl ⟨rfl, rfl⟩
    refine swD hD (fun e hD => ?_) (fun _ hD => ?_)
    · cases e
      refine ax_Wp.callH (f' := (12, [some (.ref 0), some (.int p0), some (.int p1), some (.int p2), some (.int p3), some (.ref 138), none], [.int (nI 0), .ref 138])) (pc2 := 27) (i := 6) rfl rfl (w_75 (d := d + 0) hx) rfl rfl rfl ?_
      refine ax_Wp.go (f' := (28, [some (.ref 0), some (.int p0), some (.int p1), some (.int p2), some (.int p3), some (.ref 138), none], [.int (nI 3)])) 1 rfl ?_
      obtain rfl := inj hD
      exact ax_Wp.ret rfl ⟨rfl, rfl⟩
    cases hD
def D76 (m : dM) (p0 : Int32) : Option ((Int32 ⊕ Nat) × dM) := if p0 < (nI 1) then some (.inr 1, (bump m)) else if p0 ≤ (nI 60) then (D131 m).bind fun (r1 : dM) => (fI r1 1 6 p0).bind fun (m2 : dM) => some (.inl (rI r1 1 6), m2) else some (.inr 1, (bump m))
set_option maxRecDepth 20000 in
theorem w_76 {X : Nat × (Nat → Int32)} {d : Nat} {m : dM} {p0 : Int32} {r : (Int32 ⊕ Nat) × dM} (hD : D76 m p0 = some r) : ax_Ev X (d + 6) 76 [.ref 0, .int p0] (stt m) (oT (fun x => some (.int x)) r.1) (stt r.2) := by
  unfold D76 at hD
  show ax_Wp X (d + 5 + 1) 76 (0, [some (.ref 0), some (.int p0), none], []) (stt m) _
  refine ax_Wp.go (f' := (2, [some (.ref 0), some (.int p0), none], [.int (nI 1), .int p0])) 2 rfl ?_
  refine ax_Wp.brD hD rfl (fun _ hD => ?_) (fun _ hD => ?_)
  · obtain rfl := inj hD
    exact ax_Wp.thr rfl (ax_six _ rfl) ⟨rfl, rfl⟩
  · refine ax_Wp.go (f' := (8, [some (.ref 0), some (.int p0), none], [.int (nI 60), .int p0])) 2 rfl ?_
    refine ax_Wp.brD hD rfl (fun _ hD => ?_) (fun _ hD => ?_)
    · refine ax_Wp.go (f' := (22, [some (.ref 0), some (.int p0), none], [.ref 0])) 1 rfl ?_
      refine bnd hD (fun r1 hx hD => ?_)
      refine ax_Wp.callE (f' := (25, [some (.ref 0), some (.int p0), none], [])) rfl rfl (w_131 (d := d + 2) hx) rfl ?_
      refine ax_Wp.go (f' := (38, [some (.ref 0), some (.int p0), some (.int (rI r1 1 6))], [.int p0, .ref 1])) 7 rfl ?_
      refine ax_Wp.ptI hD rfl rfl rfl (fun m2 hD => ?_)
      refine ax_Wp.go (f' := (42, [some (.ref 0), some (.int p0), some (.int (rI r1 1 6))], [.int (rI r1 1 6)])) 1 rfl ?_
      obtain rfl := inj hD
      exact ax_Wp.ret rfl ⟨rfl, rfl⟩
    · obtain rfl := inj hD
      exact ax_Wp.thr rfl (ax_six _ rfl) ⟨rfl, rfl⟩
