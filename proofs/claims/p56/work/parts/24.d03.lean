/-! WHAT METHODS DO, printed of their bytecode -/
def D29 (m : dM) (p0 : Int32) : Option (Int32) := Option.bind ((if p0 < (nI 0) then some (nI 0) else if (rI m 10 4) ≤ p0 then some (nI 0) else if (nI 8) ≤ p0 then some (nI 0) else some (nI 1)) : Option (Int32)) fun (v1 : Int32) => (gB v1).bind fun (b2 : Int32) => some b2
set_option maxRecDepth 20000 in
theorem w_29 {X : Nat × (Nat → Int32)} {d : Nat} {m : dM} {p0 : Int32} {r : Int32} (hD : D29 m p0 = some r) : ax_Ev X (d + 1) 19 [.ref 10, .int p0] (stt m) (.inl (some (.int r))) (stt m) := by
  unfold D29 at hD
  show ax_Wp X (d + 0 + 1) 19 (0, [some (.ref 10), some (.int p0)], []) (stt m) _
  refine ax_Wp.go (f' := (1, [some (.ref 10), some (.int p0)], [.int p0])) 1 rfl ?_
  refine bnd hD (fun v1 hx hD => ?_)
  refine ax_Wp.jn (F := (23, [some (.ref 10), none], [.int v1])) (hh := stt m) ?_ (fun kkv1 => ?_)
  · refine ax_Wp.retB hD rfl (fun b2 hD => ?_)
    obtain rfl := inj hD
    exact ⟨rfl, rfl⟩
  clear hD
  have hD := hx
  clear hx
  refine ax_Wp.brD hD rfl (fun _ hD => ?_) (fun _ hD => ?_)
  · refine ax_Wp.go (f' := (23, [some (.ref 10), some (.int p0)], [.int (nI 0)])) 1 rfl ?_
    obtain rfl := inj hD
    exact ax_Wp.dead kkv1 ⟨.inl rfl, ⟨.inr ⟨rfl, trivial⟩, trivial⟩⟩
  · refine ax_Wp.go (f' := (9, [some (.ref 10), some (.int p0)], [.int (rI m 10 4), .int p0])) 3 rfl ?_
    refine ax_Wp.brD hD rfl (fun _ hD => ?_) (fun _ hD => ?_)
    · refine ax_Wp.go (f' := (23, [some (.ref 10), some (.int p0)], [.int (nI 0)])) 1 rfl ?_
      obtain rfl := inj hD
      exact ax_Wp.dead kkv1 ⟨.inl rfl, ⟨.inr ⟨rfl, trivial⟩, trivial⟩⟩
    · refine ax_Wp.go (f' := (15, [some (.ref 10), some (.int p0)], [.int (nI 8), .int p0])) 2 rfl ?_
      refine ax_Wp.brD hD rfl (fun _ hD => ?_) (fun _ hD => ?_)
      · refine ax_Wp.go (f' := (23, [some (.ref 10), some (.int p0)], [.int (nI 0)])) 1 rfl ?_
        obtain rfl := inj hD
        exact ax_Wp.dead kkv1 ⟨.inl rfl, ⟨.inr ⟨rfl, trivial⟩, trivial⟩⟩
      · refine ax_Wp.go (f' := (23, [some (.ref 10), some (.int p0)], [.int (nI 1)])) 2 rfl ?_
        obtain rfl := inj hD
        exact ax_Wp.dead kkv1 ⟨.inl rfl, ⟨.inr ⟨rfl, trivial⟩, trivial⟩⟩
def D38 (m : dM) (p0 : Int32) (p1 : Int32) (p2 : Int32) : Option (dM) := (D34 m p0).bind fun (x1 : Int32) => lp (β := dM) 3000 (fun (s2 : Int32 × Int32 × Int32 × dM) => if (rI s2.2.2.2 10 4) ≤ s2.2.2.1 then some (.inr s2.2.2.2) else (D39 s2.2.2.2 p1 s2.2.1).bind fun (x3 : Int32) => (D29 s2.2.2.2 x3).bind fun (x4 : Int32) => if x4 = (nI 0) then some (.inr s2.2.2.2) else (gI s2.2.2.2 12 8 x3).bind fun (x5 : Int32) => Option.bind ((if p2 < (s2.1 + x5) then some (s2.1, s2.2.2.2) else (sI s2.2.2.2 14 8 x3 ((nI 10) + p0)).bind fun (m7 : dM) => (gI m7 12 8 x3).bind fun (x8 : Int32) => some (s2.1 + x8, m7)) : Option (Int32 × dM)) fun (v6 : Int32 × dM) => some (.inl (v6.1, s2.2.1 ||| ((nI 1) <<< (x3 &&& nI 31)), s2.2.2.1 + (nI 1), v6.2))) (x1, nI 0, nI 0, m)
set_option maxRecDepth 20000 in
theorem w_38 {X : Nat × (Nat → Int32)} {d : Nat} {m : dM} {p0 : Int32} {p1 : Int32} {p2 : Int32} {r : dM} (hD : D38 m p0 p1 p2 = some r) : ax_Ev X (d + 2) 28 [.ref 10, .int p0, .int p1, .int p2] (stt m) (.inl none) (stt r) := by
  unfold D38 at hD
  show ax_Wp X (d + 1 + 1) 28 (0, [some (.ref 10), some (.int p0), some (.int p1), some (.int p2), none, none, none, none], []) (stt m) _
  refine ax_Wp.go (f' := (2, [some (.ref 10), some (.int p0), some (.int p1), some (.int p2), none, none, none, none], [.int p0, .ref 10])) 2 rfl ?_
  refine bnd hD (fun x1 hx hD => ?_)
  refine ax_Wp.callE (f' := (5, [some (.ref 10), some (.int p0), some (.int p1), some (.int p2), none, none, none, none], [])) rfl rfl (w_34 (d := d + 0) hx) rfl ?_
  refine ax_Wp.go (f' := (13, [some (.ref 10), some (.int p0), some (.int p1), some (.int p2), some (.int x1), some (.int (nI 0)), some (.int (nI 0)), none], [])) 5 rfl ?_
  refine ax_Wp.lpD (fun (s2 : Int32 × Int32 × Int32 × dM) => ((13, [some (.ref 10), some (.int p0), some (.int p1), some (.int p2), some (.int s2.1), some (.int s2.2.1), some (.int s2.2.2.1), none], []), stt s2.2.2.2)) ?_ hD
  clear hD
  intro s2 v hD ks2
  refine ax_Wp.go (f' := (19, [some (.ref 10), some (.int p0), some (.int p1), some (.int p2), some (.int s2.1), some (.int s2.2.1), some (.int s2.2.2.1), none], [.int (rI s2.2.2.2 10 4), .int s2.2.2.1])) 3 rfl ?_
  refine ax_Wp.brD hD rfl (fun _ hD => ?_) (fun _ hD => ?_)
  · obtain rfl := inj hD
    obtain rfl := ks2.o
    exact ax_Wp.ret rfl ⟨rfl, rfl⟩
  · refine ax_Wp.go (f' := (26, [some (.ref 10), some (.int p0), some (.int p1), some (.int p2), some (.int s2.1), some (.int s2.2.1), some (.int s2.2.2.1), none], [.int s2.2.1, .int p1, .ref 10])) 3 rfl ?_
    refine bnd hD (fun x3 hx hD => ?_)
    refine ax_Wp.callE (f' := (29, [some (.ref 10), some (.int p0), some (.int p1), some (.int p2), some (.int s2.1), some (.int s2.2.1), some (.int s2.2.2.1), none], [])) rfl rfl (w_39 (d := d + 0) hx) rfl ?_
    refine ax_Wp.go (f' := (34, [some (.ref 10), some (.int p0), some (.int p1), some (.int p2), some (.int s2.1), some (.int s2.2.1), some (.int s2.2.2.1), some (.int x3)], [.int x3, .ref 10])) 3 rfl ?_
    refine bnd hD (fun x4 hx hD => ?_)
    refine ax_Wp.callE (f' := (37, [some (.ref 10), some (.int p0), some (.int p1), some (.int p2), some (.int s2.1), some (.int s2.2.1), some (.int s2.2.2.1), some (.int x3)], [])) rfl rfl (w_29 (d := d + 0) hx) rfl ?_
    refine ax_Wp.brD hD rfl (fun _ hD => ?_) (fun _ hD => ?_)
    · obtain rfl := inj hD
      obtain rfl := ks2.o
      exact ax_Wp.ret rfl ⟨rfl, rfl⟩
    · refine ax_Wp.go (f' := (58, [some (.ref 10), some (.int p0), some (.int p1), some (.int p2), some (.int s2.1), some (.int (s2.2.1 ||| ((nI 1) <<< (x3 &&& nI 31)))), some (.int s2.2.2.1), some (.int x3)], [.int x3, .ref 12, .int s2.1])) 10 rfl ?_
      refine ax_Wp.rdI hD rfl rfl rfl (fun x5 hD => ?_)
      refine ax_Wp.go (f' := (61, [some (.ref 10), some (.int p0), some (.int p1), some (.int p2), some (.int s2.1), some (.int (s2.2.1 ||| ((nI 1) <<< (x3 &&& nI 31)))), some (.int s2.2.2.1), some (.int x3)], [.int p2, .int (s2.1 + x5)])) 2 rfl ?_
      refine bnd hD (fun v6 hx hD => ?_)
      refine ax_Wp.jn (F := (87, [some (.ref 10), some (.int p0), some (.int p1), some (.int p2), some (.int v6.1), some (.int (s2.2.1 ||| ((nI 1) <<< (x3 &&& nI 31)))), some (.int s2.2.2.1), none], [])) (hh := stt v6.2) ?_ (fun kkv6 => ?_)
      · refine ax_Wp.go (f' := (13, [some (.ref 10), some (.int p0), some (.int p1), some (.int p2), some (.int v6.1), some (.int (s2.2.1 ||| ((nI 1) <<< (x3 &&& nI 31)))), some (.int (s2.2.2.1 + (nI 1))), none], [])) 2 rfl ?_
        obtain rfl := inj hD
        exact ks2.i
      clear hD
      have hD := hx
      clear hx
      refine ax_Wp.brD hD rfl (fun _ hD => ?_) (fun _ hD => ?_)
      · obtain rfl := inj hD
        exact ax_Wp.dead kkv6 ⟨.inl rfl, ⟨.inl rfl, ⟨.inl rfl, ⟨.inl rfl, ⟨.inl rfl, ⟨.inl rfl, ⟨.inl rfl, ⟨.inr ⟨rfl, trivial⟩, trivial⟩⟩⟩⟩⟩⟩⟩⟩
      · refine ax_Wp.go (f' := (74, [some (.ref 10), some (.int p0), some (.int p1), some (.int p2), some (.int s2.1), some (.int (s2.2.1 ||| ((nI 1) <<< (x3 &&& nI 31)))), some (.int s2.2.2.1), some (.int x3)], [.int ((nI 10) + p0), .int x3, .ref 14])) 6 rfl ?_
        refine ax_Wp.wrI hD rfl rfl (fun _ => rfl) (fun m7 hD => ?_)
        refine ax_Wp.go (f' := (83, [some (.ref 10), some (.int p0), some (.int p1), some (.int p2), some (.int s2.1), some (.int (s2.2.1 ||| ((nI 1) <<< (x3 &&& nI 31)))), some (.int s2.2.2.1), some (.int x3)], [.int x3, .ref 12, .int s2.1])) 4 rfl ?_
        refine ax_Wp.rdI hD rfl rfl rfl (fun x8 hD => ?_)
        refine ax_Wp.go (f' := (87, [some (.ref 10), some (.int p0), some (.int p1), some (.int p2), some (.int (s2.1 + x8)), some (.int (s2.2.1 ||| ((nI 1) <<< (x3 &&& nI 31)))), some (.int s2.2.2.1), some (.int x3)], [])) 2 rfl ?_
        obtain rfl := inj hD
        exact ax_Wp.dead kkv6 ⟨.inl rfl, ⟨.inl rfl, ⟨.inl rfl, ⟨.inl rfl, ⟨.inl rfl, ⟨.inl rfl, ⟨.inl rfl, ⟨.inr ⟨rfl, trivial⟩, trivial⟩⟩⟩⟩⟩⟩⟩⟩
def D52 (m : dM) : Option (Int32 × dM) := (D7 m).bind fun (r1 : dM) => Option.bind (lp (β := Int32 × dM) 3000 (fun (s2 : Int32 × Int32 × dM) => if (nI 4) ≤ s2.2.1 then some (.inr (s2.1, s2.2.2)) else (gI s2.2.2 40 4 s2.2.1).bind fun (x4 : Int32) => (sI s2.2.2 9 4 s2.2.1 x4).bind fun (m5 : dM) => (sI m5 7 4 s2.2.1 (-1)).bind fun (m6 : dM) => Option.bind ((if x4 = (nI 0) then (gI m6 38 4 s2.2.1).bind fun (x8 : Int32) => (sI m6 6 4 s2.2.1 x8).bind fun (m9 : dM) => (gI m9 8 4 s2.2.1).bind fun (x10 : Int32) => (sI m9 8 4 s2.2.1 (x10 + (nI 1))).bind fun (m11 : dM) => some (s2.1 + (nI 1), m11) else if x4 = (nI 1) then some (s2.1, m6) else (fI m6 1 8 ((rI m6 1 8) + (nI 1))).bind fun (m12 : dM) => some (s2.1, m12)) : Option (Int32 × dM)) fun (v7 : Int32 × dM) => some (.inl (v7.1, s2.2.1 + (nI 1), v7.2))) (nI 0, nI 0, r1)) fun (v3 : Int32 × dM) => Option.bind (lp (β := dM) 3000 (fun (s13 : Int32 × dM) => if (nI 4) ≤ s13.1 then some (.inr s13.2) else (D130 s13.1).bind fun (x15 : Int32) => (gI s13.2 17 2 x15).bind fun (x16 : Int32) => (gI s13.2 6 4 s13.1).bind fun (x17 : Int32) => (D37 s13.2 s13.1 x17).bind fun (r18 : Int32 × dM) => (sI r18.2 17 2 x15 (x16 + r18.1)).bind fun (m19 : dM) => (gI m19 6 4 s13.1).bind fun (x20 : Int32) => (D45 m19 s13.1).bind fun (x21 : Int32) => (D38 m19 s13.1 x20 x21).bind fun (r22 : dM) => some (.inl (s13.1 + (nI 1), r22))) (nI 0, v3.2)) fun (v14 : dM) => (fI v14 1 7 ((rI v14 1 7) + (nI 1))).bind fun (m23 : dM) => (D42 m23).bind fun (x24 : Int64) => (D23 m23 x24).bind fun (r25 : dM) => some (v3.1, r25)
set_option maxRecDepth 20000 in
theorem w_52 {X : Nat × (Nat → Int32)} {d : Nat} {m : dM} {r : Int32 × dM} (hD : D52 m = some r) : ax_Ev X (d + 4) 42 [.ref 1, .ref 36] (stt m) (.inl (some (.int r.1))) (stt r.2) := by
  unfold D52 at hD
  show ax_Wp X (d + 3 + 1) 42 (0, [some (.ref 1), some (.ref 36), none, none, none], []) (stt m) _
  refine ax_Wp.go (f' := (2, [some (.ref 1), some (.ref 36), none, none, none], [.ref 1, .ref 36])) 2 rfl ?_
  refine bnd hD (fun r1 hx hD => ?_)
  refine ax_Wp.callE (f' := (5, [some (.ref 1), some (.ref 36), none, none, none], [])) rfl rfl (w_7 (d := d + 0) hx) rfl ?_
  refine ax_Wp.go (f' := (9, [some (.ref 1), some (.ref 36), some (.int (nI 0)), some (.int (nI 0)), none], [])) 4 rfl ?_
  refine bnd hD (fun v3 hx hD => ?_)
  refine ax_Wp.jn (F := (104, [some (.ref 1), some (.ref 36), some (.int v3.1), none, none], [])) (hh := stt v3.2) ?_ (fun kkv3 => ?_)
  · refine ax_Wp.go (f' := (106, [some (.ref 1), some (.ref 36), some (.int v3.1), some (.int (nI 0)), none], [])) 2 rfl ?_
    refine bnd hD (fun v14 hx hD => ?_)
    refine ax_Wp.jn (F := (168, [some (.ref 1), some (.ref 36), some (.int v3.1), none, none], [])) (hh := stt v14) ?_ (fun kkv14 => ?_)
    · refine ax_Wp.go (f' := (175, [some (.ref 1), some (.ref 36), some (.int v3.1), none, none], [.int ((rI v14 1 7) + (nI 1)), .ref 1])) 5 rfl ?_
      refine ax_Wp.ptI hD rfl rfl rfl (fun m23 hD => ?_)
      refine ax_Wp.go (f' := (183, [some (.ref 1), some (.ref 36), some (.int v3.1), none, none], [.ref 1, .ref 15])) 3 rfl ?_
      refine bnd hD (fun x24 hx hD => ?_)
      refine ax_Wp.callE (f' := (186, [some (.ref 1), some (.ref 36), some (.int v3.1), none, none], [.ref 15])) rfl rfl (w_42 (d := d + 2) hx) rfl ?_
      refine bnd hD (fun r25 hx hD => ?_)
      refine ax_Wp.callE (f' := (189, [some (.ref 1), some (.ref 36), some (.int v3.1), none, none], [])) rfl rfl (w_23 (d := d + 2) hx) rfl ?_
      refine ax_Wp.go (f' := (190, [some (.ref 1), some (.ref 36), some (.int v3.1), none, none], [.int v3.1])) 1 rfl ?_
      obtain rfl := inj hD
      exact ax_Wp.ret rfl ⟨rfl, rfl⟩
    clear hD
    refine ax_Wp.lpD (fun (s13 : Int32 × dM) => ((106, [some (.ref 1), some (.ref 36), some (.int v3.1), some (.int s13.1), none], []), stt s13.2)) ?_ hx
    clear hx
    intro s13 v hD ks13
    refine ax_Wp.go (f' := (108, [some (.ref 1), some (.ref 36), some (.int v3.1), some (.int s13.1), none], [.int (nI 4), .int s13.1])) 2 rfl ?_
    refine ax_Wp.brD hD rfl (fun _ hD => ?_) (fun _ hD => ?_)
    · obtain rfl := inj hD
      obtain rfl := ks13.o
      exact ax_Wp.dead kkv14 ⟨.inl rfl, ⟨.inl rfl, ⟨.inl rfl, ⟨.inr ⟨rfl, trivial⟩, ⟨.inl rfl, trivial⟩⟩⟩⟩⟩
    · refine ax_Wp.go (f' := (116, [some (.ref 1), some (.ref 36), some (.int v3.1), some (.int s13.1), none], [.int s13.1, .ref 17])) 3 rfl ?_
      refine bnd hD (fun x15 hx hD => ?_)
      refine ax_Wp.callE (f' := (119, [some (.ref 1), some (.ref 36), some (.int v3.1), some (.int s13.1), none], [.ref 17])) rfl rfl (w_130 (d := d + 2) hx) rfl ?_
      refine ax_Wp.go (f' := (120, [some (.ref 1), some (.ref 36), some (.int v3.1), some (.int s13.1), none], [.int x15, .ref 17, .int x15, .ref 17])) 1 rfl ?_
      refine ax_Wp.rdI hD rfl rfl rfl (fun x16 hD => ?_)
      refine ax_Wp.go (f' := (134, [some (.ref 1), some (.ref 36), some (.int v3.1), some (.int s13.1), none], [.int s13.1, .ref 6, .int s13.1, .ref 10, .int x16, .int x15, .ref 17])) 7 rfl ?_
      refine ax_Wp.rdI hD rfl rfl rfl (fun x17 hD => ?_)
      refine bnd hD (fun r18 hx hD => ?_)
      refine ax_Wp.callE (f' := (138, [some (.ref 1), some (.ref 36), some (.int v3.1), some (.int s13.1), none], [.int x16, .int x15, .ref 17])) rfl rfl (w_37 (d := d + 2) hx) rfl ?_
      refine ax_Wp.go (f' := (139, [some (.ref 1), some (.ref 36), some (.int v3.1), some (.int s13.1), none], [.int (x16 + r18.1), .int x15, .ref 17])) 1 rfl ?_
      refine ax_Wp.wrI hD rfl rfl (fun _ => rfl) (fun m19 hD => ?_)
      refine ax_Wp.go (f' := (153, [some (.ref 1), some (.ref 36), some (.int v3.1), some (.int s13.1), none], [.int s13.1, .ref 6, .int s13.1, .ref 10])) 7 rfl ?_
      refine ax_Wp.rdI hD rfl rfl rfl (fun x20 hD => ?_)
      refine ax_Wp.go (f' := (156, [some (.ref 1), some (.ref 36), some (.int v3.1), some (.int s13.1), none], [.int s13.1, .ref 1, .int x20, .int s13.1, .ref 10])) 2 rfl ?_
      refine bnd hD (fun x21 hx hD => ?_)
      refine ax_Wp.callE (f' := (159, [some (.ref 1), some (.ref 36), some (.int v3.1), some (.int s13.1), none], [.int x20, .int s13.1, .ref 10])) rfl rfl (w_45 (d := d + 1) hx) rfl ?_
      refine bnd hD (fun r22 hx hD => ?_)
      refine ax_Wp.callE (f' := (162, [some (.ref 1), some (.ref 36), some (.int v3.1), some (.int s13.1), none], [])) rfl rfl (w_38 (d := d + 1) hx) rfl ?_
      refine ax_Wp.go (f' := (106, [some (.ref 1), some (.ref 36), some (.int v3.1), some (.int (s13.1 + (nI 1))), none], [])) 2 rfl ?_
      obtain rfl := inj hD
      exact ks13.i
  clear hD
  refine ax_Wp.lpD (fun (s2 : Int32 × Int32 × dM) => ((9, [some (.ref 1), some (.ref 36), some (.int s2.1), some (.int s2.2.1), none], []), stt s2.2.2)) ?_ hx
  clear hx
  intro s2 v hD ks2
  refine ax_Wp.go (f' := (11, [some (.ref 1), some (.ref 36), some (.int s2.1), some (.int s2.2.1), none], [.int (nI 4), .int s2.2.1])) 2 rfl ?_
  refine ax_Wp.brD hD rfl (fun _ hD => ?_) (fun _ hD => ?_)
  · obtain rfl := inj hD
    obtain rfl := ks2.o
    exact ax_Wp.dead kkv3 ⟨.inl rfl, ⟨.inl rfl, ⟨.inl rfl, ⟨.inr ⟨rfl, trivial⟩, ⟨.inl rfl, trivial⟩⟩⟩⟩⟩
  · refine ax_Wp.go (f' := (19, [some (.ref 1), some (.ref 36), some (.int s2.1), some (.int s2.2.1), none], [.int s2.2.1, .ref 40])) 3 rfl ?_
    refine ax_Wp.rdI hD rfl rfl rfl (fun x4 hD => ?_)
    refine ax_Wp.go (f' := (32, [some (.ref 1), some (.ref 36), some (.int s2.1), some (.int s2.2.1), some (.int x4)], [.int x4, .int s2.2.1, .ref 9])) 6 rfl ?_
    refine ax_Wp.wrI hD rfl rfl (fun _ => rfl) (fun m5 hD => ?_)
    refine ax_Wp.go (f' := (42, [some (.ref 1), some (.ref 36), some (.int s2.1), some (.int s2.2.1), some (.int x4)], [.int (-1), .int s2.2.1, .ref 7])) 5 rfl ?_
    refine ax_Wp.wrI hD rfl rfl (fun _ => rfl) (fun m6 hD => ?_)
    refine ax_Wp.go (f' := (45, [some (.ref 1), some (.ref 36), some (.int s2.1), some (.int s2.2.1), some (.int x4)], [.int x4])) 1 rfl ?_
    refine bnd hD (fun v7 hx hD => ?_)
    refine ax_Wp.jn (F := (98, [some (.ref 1), some (.ref 36), some (.int v7.1), some (.int s2.2.1), none], [])) (hh := stt v7.2) ?_ (fun kkv7 => ?_)
    · refine ax_Wp.go (f' := (9, [some (.ref 1), some (.ref 36), some (.int v7.1), some (.int (s2.2.1 + (nI 1))), none], [])) 2 rfl ?_
      obtain rfl := inj hD
      exact ks2.i
    clear hD
    have hD := hx
    clear hx
    refine ax_Wp.brD hD rfl (fun _ hD => ?_) (fun _ hD => ?_)
    · refine ax_Wp.go (f' := (61, [some (.ref 1), some (.ref 36), some (.int s2.1), some (.int s2.2.1), some (.int x4)], [.int s2.2.1, .ref 38, .int s2.2.1, .ref 6])) 7 rfl ?_
      refine ax_Wp.rdI hD rfl rfl rfl (fun x8 hD => ?_)
      refine ax_Wp.wrI hD rfl rfl (fun _ => rfl) (fun m9 hD => ?_)
      refine ax_Wp.go (f' := (72, [some (.ref 1), some (.ref 36), some (.int s2.1), some (.int s2.2.1), some (.int x4)], [.int s2.2.1, .ref 8, .int s2.2.1, .ref 8])) 5 rfl ?_
      refine ax_Wp.rdI hD rfl rfl rfl (fun x10 hD => ?_)
      refine ax_Wp.go (f' := (75, [some (.ref 1), some (.ref 36), some (.int s2.1), some (.int s2.2.1), some (.int x4)], [.int (x10 + (nI 1)), .int s2.2.1, .ref 8])) 2 rfl ?_
      refine ax_Wp.wrI hD rfl rfl (fun _ => rfl) (fun m11 hD => ?_)
      refine ax_Wp.go (f' := (98, [some (.ref 1), some (.ref 36), some (.int (s2.1 + (nI 1))), some (.int s2.2.1), some (.int x4)], [])) 2 rfl ?_
      obtain rfl := inj hD
      exact ax_Wp.dead kkv7 ⟨.inl rfl, ⟨.inl rfl, ⟨.inl rfl, ⟨.inl rfl, ⟨.inr ⟨rfl, trivial⟩, trivial⟩⟩⟩⟩⟩
    · refine ax_Wp.go (f' := (85, [some (.ref 1), some (.ref 36), some (.int s2.1), some (.int s2.2.1), some (.int x4)], [.int (nI 1), .int x4])) 2 rfl ?_
      refine ax_Wp.brD hD rfl (fun _ hD => ?_) (fun _ hD => ?_)
      · obtain rfl := inj hD
        exact ax_Wp.dead kkv7 ⟨.inl rfl, ⟨.inl rfl, ⟨.inl rfl, ⟨.inl rfl, ⟨.inr ⟨rfl, trivial⟩, trivial⟩⟩⟩⟩⟩
      · refine ax_Wp.go (f' := (95, [some (.ref 1), some (.ref 36), some (.int s2.1), some (.int s2.2.1), some (.int x4)], [.int ((rI m6 1 8) + (nI 1)), .ref 1])) 5 rfl ?_
        refine ax_Wp.ptI hD rfl rfl rfl (fun m12 hD => ?_)
        obtain rfl := inj hD
        exact ax_Wp.dead kkv7 ⟨.inl rfl, ⟨.inl rfl, ⟨.inl rfl, ⟨.inl rfl, ⟨.inr ⟨rfl, trivial⟩, trivial⟩⟩⟩⟩⟩
def D79 (m : dM) : Option ((Int32 ⊕ Nat) × dM) := (D44 m).bind fun (x1 : Int32) => if x1 = (nI 0) then (D131 m).bind fun (r2 : dM) => (D52 r2).bind fun (r3 : Int32 × dM) => some (.inl r3.1, r3.2) else some (.inr 2, (bump m))
set_option maxRecDepth 20000 in
theorem w_79 {X : Nat × (Nat → Int32)} {d : Nat} {m : dM} {r : (Int32 ⊕ Nat) × dM} (hD : D79 m = some r) : ax_Ev X (d + 6) 66 [.ref 0] (stt m) (oT (fun x => some (.int x)) r.1) (stt r.2) := by
  unfold D79 at hD
  show ax_Wp X (d + 5 + 1) 66 (0, [some (.ref 0)], []) (stt m) _
  refine ax_Wp.go (f' := (4, [some (.ref 0)], [.ref 1])) 2 rfl ?_
  refine bnd hD (fun x1 hx hD => ?_)
  refine ax_Wp.callE (f' := (7, [some (.ref 0)], [])) rfl rfl (w_44 (d := d + 3) hx) rfl ?_
  refine ax_Wp.brD hD rfl (fun _ hD => ?_) (fun _ hD => ?_)
  · refine ax_Wp.go (f' := (21, [some (.ref 0)], [.ref 0])) 1 rfl ?_
    refine bnd hD (fun r2 hx hD => ?_)
    refine ax_Wp.callE (f' := (24, [some (.ref 0)], [])) rfl rfl (w_131 (d := d + 2) hx) rfl ?_
    refine ax_Wp.go (f' := (32, [some (.ref 0)], [.ref 36, .ref 1])) 4 rfl ?_
    refine bnd hD (fun r3 hx hD => ?_)
    refine ax_Wp.callE (f' := (35, [some (.ref 0)], [])) rfl rfl (w_52 (d := d + 1) hx) rfl ?_
    obtain rfl := inj hD
    exact ax_Wp.ret rfl ⟨rfl, rfl⟩
  · obtain rfl := inj hD
    exact ax_Wp.thr rfl (ax_six _ rfl) ⟨rfl, rfl⟩
def D76 (m : dM) (p0 : Int32) : Option ((Int32 ⊕ Nat) × dM) := if p0 < (nI 1) then some (.inr 1, (bump m)) else if p0 ≤ (nI 60) then (D131 m).bind fun (r1 : dM) => (fI r1 1 6 p0).bind fun (m2 : dM) => some (.inl (rI r1 1 6), m2) else some (.inr 1, (bump m))
set_option maxRecDepth 20000 in
theorem w_76 {X : Nat × (Nat → Int32)} {d : Nat} {m : dM} {p0 : Int32} {r : (Int32 ⊕ Nat) × dM} (hD : D76 m p0 = some r) : ax_Ev X (d + 6) 63 [.ref 0, .int p0] (stt m) (oT (fun x => some (.int x)) r.1) (stt r.2) := by
  unfold D76 at hD
  show ax_Wp X (d + 5 + 1) 63 (0, [some (.ref 0), some (.int p0), none], []) (stt m) _
  refine ax_Wp.go (f' := (2, [some (.ref 0), some (.int p0), none], [.int (nI 1), .int p0])) 2 rfl ?_
  refine ax_Wp.brD hD rfl (fun _ hD => ?_) (fun _ hD => ?_)
  · obtain rfl := inj hD
    exact ax_Wp.thr rfl (ax_six _ rfl) ⟨rfl, rfl⟩
  · refine ax_Wp.go (f' := (8, [some (.ref 0), some (.int p0), none], [.int (nI 60), .int p0])) 2 rfl ?_
    refine ax_Wp.brD hD rfl (fun _ hD => ?_) (fun _ hD => ?_)
    · refine ax_Wp.go (f' := (22, [some (.ref 0), some (.int p0), none], [.ref 0])) 1 rfl ?_
      refine bnd hD (fun r1 hx hD => ?_)
      refine ax_Wp.callE (f' := (25, [some (.ref 0), some (.int p0), none], [])) rfl rfl (w_131 (d := d + 2) hx) rfl ?_
      refine ax_Wp.go (f' := (38, [some (.ref 0), some (.int p0), some (.int (rI r1 1 6))], [.int p0, .ref 1])) 7 rfl ?_
      refine ax_Wp.ptI hD rfl rfl rfl (fun m2 hD => ?_)
      refine ax_Wp.go (f' := (42, [some (.ref 0), some (.int p0), some (.int (rI r1 1 6))], [.int (rI r1 1 6)])) 1 rfl ?_
      obtain rfl := inj hD
      exact ax_Wp.ret rfl ⟨rfl, rfl⟩
    · obtain rfl := inj hD
      exact ax_Wp.thr rfl (ax_six _ rfl) ⟨rfl, rfl⟩
def D95 (m : dM) (p0 : Int32) : Option (Int32 ⊕ Nat) := cT (D124 p0) m (fun (x1 : Unit) => (D3 m p0).bind fun (x4 : Int32) => (gB x4).bind fun (b5 : Int32) => some (.inl b5)) (fun (j2 : Nat) (m3 : dM) => some (.inr j2))
set_option maxRecDepth 20000 in
theorem w_95 {X : Nat × (Nat → Int32)} {d : Nat} {m : dM} {p0 : Int32} {r : Int32 ⊕ Nat} (hD : D95 m p0 = some r) : ax_Ev X (d + 7) 74 [.ref 0, .int p0] (stt m) (oT (fun x => some (.int x)) r) (stt (bT m r)) := by
  unfold D95 at hD
  show ax_Wp X (d + 6 + 1) 74 (0, [some (.ref 0), some (.int p0)], []) (stt m) _
  refine ax_Wp.go (f' := (1, [some (.ref 0), some (.int p0)], [.int p0])) 1 rfl ?_
  refine cT.sp hD (fun x1 hx hD => ?_) (fun j2 hx hD => ?_)
  · refine ax_Wp.callE (f' := (4, [some (.ref 0), some (.int p0)], [])) rfl rfl (w_124 (d := d + 0) hx) rfl ?_
    refine ax_Wp.go (f' := (12, [some (.ref 0), some (.int p0)], [.int p0, .ref 5])) 4 rfl ?_
    refine bnd hD (fun x4 hx hD => ?_)
    refine ax_Wp.callE (f' := (15, [some (.ref 0), some (.int p0)], [])) rfl rfl (w_3 (d := d + 5) hx) rfl ?_
    refine ax_Wp.retB hD rfl (fun b5 hD => ?_)
    obtain rfl := inj hD
    exact ⟨rfl, rfl⟩
  · obtain rfl := inj hD
    exact ax_Wp.callX (f' := (4, [some (.ref 0), some (.int p0)], [])) rfl rfl (w_124 (d := d + 0) hx) rfl ⟨rfl, rfl⟩
def D63 (m : dM) (p0 : Int32) : Option (Int32) := Option.bind ((if p0 = (nI 0) then some (rI m 2 3) else some ((rI m 2 3) &&& ((rI m 2 2) ^^^ (-1)))) : Option (Int32)) fun (v1 : Int32) => some v1
set_option maxRecDepth 20000 in
theorem w_63 {X : Nat × (Nat → Int32)} {d : Nat} {m : dM} {p0 : Int32} {r : Int32} (hD : D63 m p0 = some r) : ax_Ev X (d + 1) 51 [.ref 2, .int p0] (stt m) (.inl (some (.int r))) (stt m) := by
  unfold D63 at hD
  show ax_Wp X (d + 0 + 1) 51 (0, [some (.ref 2), some (.int p0)], []) (stt m) _
  refine ax_Wp.go (f' := (1, [some (.ref 2), some (.int p0)], [.int p0])) 1 rfl ?_
  refine bnd hD (fun v1 hx hD => ?_)
  refine ax_Wp.jn (F := (22, [some (.ref 2), none], [.int v1])) (hh := stt m) ?_ (fun kkv1 => ?_)
  · obtain rfl := inj hD
    exact ax_Wp.ret rfl ⟨rfl, rfl⟩
  clear hD
  have hD := hx
  clear hx
  refine ax_Wp.brD hD rfl (fun _ hD => ?_) (fun _ hD => ?_)
  · refine ax_Wp.go (f' := (22, [some (.ref 2), some (.int p0)], [.int (rI m 2 3)])) 2 rfl ?_
    obtain rfl := inj hD
    exact ax_Wp.dead kkv1 ⟨.inl rfl, ⟨.inr ⟨rfl, trivial⟩, trivial⟩⟩
  · refine ax_Wp.go (f' := (22, [some (.ref 2), some (.int p0)], [.int ((rI m 2 3) &&& ((rI m 2 2) ^^^ (-1)))])) 8 rfl ?_
    obtain rfl := inj hD
    exact ax_Wp.dead kkv1 ⟨.inl rfl, ⟨.inr ⟨rfl, trivial⟩, trivial⟩⟩
def D64 (m : dM) (p0 : Int32) (p1 : Int32) : Option (Int32) := (D63 m p1).bind fun (x1 : Int32) => Option.bind ((if ((x1 >>> (p0 &&& nI 31)) &&& (nI 1)) = (nI 1) then some (nI 1) else some (nI 0)) : Option (Int32)) fun (v2 : Int32) => (gB v2).bind fun (b3 : Int32) => some b3
set_option maxRecDepth 20000 in
theorem w_64 {X : Nat × (Nat → Int32)} {d : Nat} {m : dM} {p0 : Int32} {p1 : Int32} {r : Int32} (hD : D64 m p0 p1 = some r) : ax_Ev X (d + 2) 52 [.ref 2, .int p0, .int p1] (stt m) (.inl (some (.int r))) (stt m) := by
  unfold D64 at hD
  show ax_Wp X (d + 1 + 1) 52 (0, [some (.ref 2), some (.int p0), some (.int p1)], []) (stt m) _
  refine ax_Wp.go (f' := (2, [some (.ref 2), some (.int p0), some (.int p1)], [.int p1, .ref 2])) 2 rfl ?_
  refine bnd hD (fun x1 hx hD => ?_)
  refine ax_Wp.callE (f' := (5, [some (.ref 2), some (.int p0), some (.int p1)], [])) rfl rfl (w_63 (d := d + 0) hx) rfl ?_
  refine ax_Wp.go (f' := (10, [some (.ref 2), some (.int p0), some (.int p1)], [.int (nI 1), .int ((x1 >>> (p0 &&& nI 31)) &&& (nI 1))])) 5 rfl ?_
  refine bnd hD (fun v2 hx hD => ?_)
  refine ax_Wp.jn (F := (18, [some (.ref 2), none, none], [.int v2])) (hh := stt m) ?_ (fun kkv2 => ?_)
  · refine ax_Wp.retB hD rfl (fun b3 hD => ?_)
    obtain rfl := inj hD
    exact ⟨rfl, rfl⟩
  clear hD
  have hD := hx
  clear hx
  refine ax_Wp.brD hD rfl (fun _ hD => ?_) (fun _ hD => ?_)
  · refine ax_Wp.go (f' := (18, [some (.ref 2), some (.int p0), some (.int p1)], [.int (nI 1)])) 2 rfl ?_
    obtain rfl := inj hD
    exact ax_Wp.dead kkv2 ⟨.inl rfl, ⟨.inr ⟨rfl, trivial⟩, ⟨.inr ⟨rfl, trivial⟩, trivial⟩⟩⟩
  · refine ax_Wp.go (f' := (18, [some (.ref 2), some (.int p0), some (.int p1)], [.int (nI 0)])) 1 rfl ?_
    obtain rfl := inj hD
    exact ax_Wp.dead kkv2 ⟨.inl rfl, ⟨.inr ⟨rfl, trivial⟩, ⟨.inr ⟨rfl, trivial⟩, trivial⟩⟩⟩
def D49 (m : dM) (p0 : Int32) : Option (Int32 × dM) := (D128 p0).bind fun (x1 : Int32) => if x1 = (nI 0) then some (nI 0, m) else (fI m 5 4 ((rI m 5 4) ^^^ ((nI 1) <<< (p0 &&& nI 31)))).bind fun (m2 : dM) => (D3 m2 p0).bind fun (x3 : Int32) => (gI m2 7 4 p0).bind fun (x4 : Int32) => (D59 m2 x4).bind fun (x5 : Int32) => Option.bind ((if x5 = (nI 0) then some m2 else (D64 m2 x4 x3).bind fun (x7 : Int32) => if x7 = (nI 0) then (D4 m2 p0).bind fun (r8 : Int32 × dM) => some r8.2 else some m2) : Option (dM)) fun (v6 : dM) => (gB x3).bind fun (b9 : Int32) => some (b9, v6)
set_option maxRecDepth 20000 in
theorem w_49 {X : Nat × (Nat → Int32)} {d : Nat} {m : dM} {p0 : Int32} {r : Int32 × dM} (hD : D49 m p0 = some r) : ax_Ev X (d + 3) 39 [.ref 1, .int p0] (stt m) (.inl (some (.int r.1))) (stt r.2) := by
  unfold D49 at hD
  show ax_Wp X (d + 2 + 1) 39 (0, [some (.ref 1), some (.int p0), none, none], []) (stt m) _
  refine ax_Wp.go (f' := (1, [some (.ref 1), some (.int p0), none, none], [.int p0])) 1 rfl ?_
  refine bnd hD (fun x1 hx hD => ?_)
  refine ax_Wp.callE (f' := (4, [some (.ref 1), some (.int p0), none, none], [])) rfl rfl (w_128 (d := d + 1) hx) rfl ?_
  refine ax_Wp.brD hD rfl (fun _ hD => ?_) (fun _ hD => ?_)
  · refine ax_Wp.go (f' := (8, [some (.ref 1), some (.int p0), none, none], [.int (nI 0)])) 1 rfl ?_
    obtain rfl := inj hD
    exact ax_Wp.ret rfl ⟨rfl, rfl⟩
  · refine ax_Wp.go (f' := (21, [some (.ref 1), some (.int p0), none, none], [.int ((rI m 5 4) ^^^ ((nI 1) <<< (p0 &&& nI 31))), .ref 5])) 8 rfl ?_
    refine ax_Wp.ptI hD rfl rfl rfl (fun m2 hD => ?_)
    refine ax_Wp.go (f' := (29, [some (.ref 1), some (.int p0), none, none], [.int p0, .ref 5])) 3 rfl ?_
    refine bnd hD (fun x3 hx hD => ?_)
    refine ax_Wp.callE (f' := (32, [some (.ref 1), some (.int p0), none, none], [])) rfl rfl (w_3 (d := d + 1) hx) rfl ?_
    refine ax_Wp.go (f' := (41, [some (.ref 1), some (.int p0), some (.int x3), none], [.int p0, .ref 7])) 5 rfl ?_
    refine ax_Wp.rdI hD rfl rfl rfl (fun x4 hD => ?_)
    refine ax_Wp.go (f' := (48, [some (.ref 1), some (.int p0), some (.int x3), some (.int x4)], [.int x4, .ref 2])) 4 rfl ?_
    refine bnd hD (fun x5 hx hD => ?_)
    refine ax_Wp.callE (f' := (51, [some (.ref 1), some (.int p0), some (.int x3), some (.int x4)], [])) rfl rfl (w_59 (d := d + 1) hx) rfl ?_
    refine bnd hD (fun v6 hx hD => ?_)
    refine ax_Wp.jn (F := (75, [some (.ref 1), none, some (.int x3), none], [])) (hh := stt v6) ?_ (fun kkv6 => ?_)
    · refine ax_Wp.go (f' := (76, [some (.ref 1), none, some (.int x3), none], [.int x3])) 1 rfl ?_
      refine ax_Wp.retB hD rfl (fun b9 hD => ?_)
      obtain rfl := inj hD
      exact ⟨rfl, rfl⟩
    clear hD
    have hD := hx
    clear hx
    refine ax_Wp.brD hD rfl (fun _ hD => ?_) (fun _ hD => ?_)
    · obtain rfl := inj hD
      exact ax_Wp.dead kkv6 ⟨.inl rfl, ⟨.inr ⟨rfl, trivial⟩, ⟨.inl rfl, ⟨.inr ⟨rfl, trivial⟩, trivial⟩⟩⟩⟩
    · refine ax_Wp.go (f' := (60, [some (.ref 1), some (.int p0), some (.int x3), some (.int x4)], [.int x3, .int x4, .ref 2])) 4 rfl ?_
      refine bnd hD (fun x7 hx hD => ?_)
      refine ax_Wp.callE (f' := (63, [some (.ref 1), some (.int p0), some (.int x3), some (.int x4)], [])) rfl rfl (w_64 (d := d + 0) hx) rfl ?_
      refine ax_Wp.brD hD rfl (fun _ hD => ?_) (fun _ hD => ?_)
      · refine ax_Wp.go (f' := (71, [some (.ref 1), some (.int p0), some (.int x3), some (.int x4)], [.int p0, .ref 5])) 3 rfl ?_
        refine bnd hD (fun r8 hx hD => ?_)
        refine ax_Wp.callE (f' := (74, [some (.ref 1), some (.int p0), some (.int x3), some (.int x4)], [])) rfl rfl (w_4 (d := d + 0) hx) rfl ?_
        refine ax_Wp.go (f' := (75, [some (.ref 1), some (.int p0), some (.int x3), some (.int x4)], [])) 1 rfl ?_
        obtain rfl := inj hD
        exact ax_Wp.dead kkv6 ⟨.inl rfl, ⟨.inr ⟨rfl, trivial⟩, ⟨.inl rfl, ⟨.inr ⟨rfl, trivial⟩, trivial⟩⟩⟩⟩
      · obtain rfl := inj hD
        exact ax_Wp.dead kkv6 ⟨.inl rfl, ⟨.inr ⟨rfl, trivial⟩, ⟨.inl rfl, ⟨.inr ⟨rfl, trivial⟩, trivial⟩⟩⟩⟩
def D73 (m : dM) (p0 : Int32) : Option ((Int32 ⊕ Nat) × dM) := cT (D124 p0) m (fun (x1 : Unit) => (D3 m p0).bind fun (x4 : Int32) => Option.bind ((if x4 = (nI 0) then some (nI 1) else some (nI 0)) : Option (Int32)) fun (v5 : Int32) => (D34 m p0).bind fun (x6 : Int32) => (D129 (rI m 1 5) v5).bind fun (x7 : Int32) => if x6 ≤ x7 then (D131 m).bind fun (r8 : dM) => (D49 r8 p0).bind fun (r9 : Int32 × dM) => (gB r9.1).bind fun (b10 : Int32) => some (.inl b10, r9.2) else some (.inr 2, (bump m))) (fun (j2 : Nat) (m3 : dM) => some (.inr j2, m3))
set_option maxRecDepth 20000 in
theorem w_73 {X : Nat × (Nat → Int32)} {d : Nat} {m : dM} {p0 : Int32} {r : (Int32 ⊕ Nat) × dM} (hD : D73 m p0 = some r) : ax_Ev X (d + 7) 61 [.ref 0, .int p0] (stt m) (oT (fun x => some (.int x)) r.1) (stt r.2) := by
  unfold D73 at hD
  show ax_Wp X (d + 6 + 1) 61 (0, [some (.ref 0), some (.int p0), none], []) (stt m) _
  refine ax_Wp.go (f' := (1, [some (.ref 0), some (.int p0), none], [.int p0])) 1 rfl ?_
  refine cT.sp hD (fun x1 hx hD => ?_) (fun j2 hx hD => ?_)
  · refine ax_Wp.callE (f' := (4, [some (.ref 0), some (.int p0), none], [])) rfl rfl (w_124 (d := d + 0) hx) rfl ?_
    refine ax_Wp.go (f' := (12, [some (.ref 0), some (.int p0), none], [.int p0, .ref 5])) 4 rfl ?_
    refine bnd hD (fun x4 hx hD => ?_)
    refine ax_Wp.callE (f' := (15, [some (.ref 0), some (.int p0), none], [])) rfl rfl (w_3 (d := d + 5) hx) rfl ?_
    refine bnd hD (fun v5 hx hD => ?_)
    refine ax_Wp.jn (F := (23, [some (.ref 0), some (.int p0), none], [.int v5])) (hh := stt m) ?_ (fun kkv5 => ?_)
    · refine ax_Wp.go (f' := (32, [some (.ref 0), some (.int p0), some (.int v5)], [.int p0, .ref 10])) 5 rfl ?_
      refine bnd hD (fun x6 hx hD => ?_)
      refine ax_Wp.callE (f' := (35, [some (.ref 0), some (.int p0), some (.int v5)], [])) rfl rfl (w_34 (d := d + 5) hx) rfl ?_
      refine ax_Wp.go (f' := (43, [some (.ref 0), some (.int p0), some (.int v5)], [.int v5, .int (rI m 1 5), .int x6])) 4 rfl ?_
      refine bnd hD (fun x7 hx hD => ?_)
      refine ax_Wp.callE (f' := (46, [some (.ref 0), some (.int p0), some (.int v5)], [.int x6])) rfl rfl (w_129 (d := d + 5) hx) rfl ?_
      refine ax_Wp.brD hD rfl (fun _ hD => ?_) (fun _ hD => ?_)
      · refine ax_Wp.go (f' := (60, [some (.ref 0), some (.int p0), some (.int v5)], [.ref 0])) 1 rfl ?_
        refine bnd hD (fun r8 hx hD => ?_)
        refine ax_Wp.callE (f' := (63, [some (.ref 0), some (.int p0), some (.int v5)], [])) rfl rfl (w_131 (d := d + 3) hx) rfl ?_
        refine ax_Wp.go (f' := (68, [some (.ref 0), some (.int p0), some (.int v5)], [.int p0, .ref 1])) 3 rfl ?_
        refine bnd hD (fun r9 hx hD => ?_)
        refine ax_Wp.callE (f' := (71, [some (.ref 0), some (.int p0), some (.int v5)], [])) rfl rfl (w_49 (d := d + 3) hx) rfl ?_
        refine ax_Wp.retB hD rfl (fun b10 hD => ?_)
        obtain rfl := inj hD
        exact ⟨rfl, rfl⟩
      · obtain rfl := inj hD
        exact ax_Wp.thr rfl (ax_six _ rfl) ⟨rfl, rfl⟩
    clear hD
    have hD := hx
    clear hx
    refine ax_Wp.brD hD rfl (fun _ hD => ?_) (fun _ hD => ?_)
    · refine ax_Wp.go (f' := (23, [some (.ref 0), some (.int p0), none], [.int (nI 1)])) 2 rfl ?_
      obtain rfl := inj hD
      exact kkv5
    · refine ax_Wp.go (f' := (23, [some (.ref 0), some (.int p0), none], [.int (nI 0)])) 1 rfl ?_
      obtain rfl := inj hD
      exact kkv5
  · obtain rfl := inj hD
    exact ax_Wp.callX (f' := (4, [some (.ref 0), some (.int p0), none], [])) rfl rfl (w_124 (d := d + 0) hx) rfl ⟨rfl, rfl⟩
def D94 (m : dM) (p0 : Int32) : Option (Int32 ⊕ Nat) := cT (D124 p0) m (fun (x1 : Unit) => (gI m 6 4 p0).bind fun (x4 : Int32) => some (.inl x4)) (fun (j2 : Nat) (m3 : dM) => some (.inr j2))
set_option maxRecDepth 20000 in
theorem w_94 {X : Nat × (Nat → Int32)} {d : Nat} {m : dM} {p0 : Int32} {r : Int32 ⊕ Nat} (hD : D94 m p0 = some r) : ax_Ev X (d + 7) 73 [.ref 0, .int p0] (stt m) (oT (fun x => some (.int x)) r) (stt (bT m r)) := by
  unfold D94 at hD
  show ax_Wp X (d + 6 + 1) 73 (0, [some (.ref 0), some (.int p0)], []) (stt m) _
  refine ax_Wp.go (f' := (1, [some (.ref 0), some (.int p0)], [.int p0])) 1 rfl ?_
  refine cT.sp hD (fun x1 hx hD => ?_) (fun j2 hx hD => ?_)
  · refine ax_Wp.callE (f' := (4, [some (.ref 0), some (.int p0)], [])) rfl rfl (w_124 (d := d + 0) hx) rfl ?_
    refine ax_Wp.go (f' := (15, [some (.ref 0), some (.int p0)], [.int p0, .ref 6])) 5 rfl ?_
    refine ax_Wp.rdI hD rfl rfl rfl (fun x4 hD => ?_)
    obtain rfl := inj hD
    exact ax_Wp.ret rfl ⟨rfl, rfl⟩
  · obtain rfl := inj hD
    exact ax_Wp.callX (f' := (4, [some (.ref 0), some (.int p0)], [])) rfl rfl (w_124 (d := d + 0) hx) rfl ⟨rfl, rfl⟩
def D123 (p0 : Int32) : Option (Unit ⊕ Nat) := if p0 < (nI 0) then some (.inr 0) else if p0 < (nI 10) then some (.inl ()) else some (.inr 0)
set_option maxRecDepth 20000 in
theorem w_123 {X : Nat × (Nat → Int32)} {d : Nat} {m : dM} {p0 : Int32} {r : Unit ⊕ Nat} (hD : D123 p0 = some r) : ax_Ev X (d + 6) 100 [.int p0] (stt m) (oT (fun (_ : Unit) => none) r) (stt (bT m r)) := by
  unfold D123 at hD
  show ax_Wp X (d + 5 + 1) 100 (0, [some (.int p0)], []) (stt m) _
  refine ax_Wp.go (f' := (1, [some (.int p0)], [.int p0])) 1 rfl ?_
  refine ax_Wp.brD hD rfl (fun _ hD => ?_) (fun _ hD => ?_)
  · obtain rfl := inj hD
    exact ax_Wp.thr rfl (ax_six _ rfl) ⟨rfl, rfl⟩
  · refine ax_Wp.go (f' := (7, [some (.int p0)], [.int (nI 10), .int p0])) 2 rfl ?_
    refine ax_Wp.brD hD rfl (fun _ hD => ?_) (fun _ hD => ?_)
    · obtain rfl := inj hD
      exact ax_Wp.ret rfl ⟨rfl, rfl⟩
    · obtain rfl := inj hD
      exact ax_Wp.thr rfl (ax_six _ rfl) ⟨rfl, rfl⟩
def D2 (m : dM) (p0 : Int32) : Option (Int32) := lp (β := Int32) 3000 (fun (s1 : Int32) => if (nI 4) ≤ s1 then some (.inr (-1)) else (gI m 6 4 s1).bind fun (x2 : Int32) => if x2 = p0 then some (.inr s1) else some (.inl (s1 + (nI 1)))) (nI 0)
set_option maxRecDepth 20000 in
theorem w_2 {X : Nat × (Nat → Int32)} {d : Nat} {m : dM} {p0 : Int32} {r : Int32} (hD : D2 m p0 = some r) : ax_Ev X (d + 1) 2 [.ref 5, .int p0] (stt m) (.inl (some (.int r))) (stt m) := by
  unfold D2 at hD
  show ax_Wp X (d + 0 + 1) 2 (0, [some (.ref 5), some (.int p0), none], []) (stt m) _
  refine ax_Wp.go (f' := (2, [some (.ref 5), some (.int p0), some (.int (nI 0))], [])) 2 rfl ?_
  refine ax_Wp.lpD (fun (s1 : Int32) => ((2, [some (.ref 5), some (.int p0), some (.int s1)], []), stt m)) ?_ hD
  clear hD
  intro s1 v hD ks1
  refine ax_Wp.go (f' := (4, [some (.ref 5), some (.int p0), some (.int s1)], [.int (nI 4), .int s1])) 2 rfl ?_
  refine ax_Wp.brD hD rfl (fun _ hD => ?_) (fun _ hD => ?_)
  · refine ax_Wp.go (f' := (26, [some (.ref 5), some (.int p0), some (.int s1)], [.int (-1)])) 1 rfl ?_
    obtain rfl := inj hD
    obtain rfl := ks1.o
    exact ax_Wp.ret rfl ⟨rfl, rfl⟩
  · refine ax_Wp.go (f' := (12, [some (.ref 5), some (.int p0), some (.int s1)], [.int s1, .ref 6])) 3 rfl ?_
    refine ax_Wp.rdI hD rfl rfl rfl (fun x2 hD => ?_)
    refine ax_Wp.go (f' := (14, [some (.ref 5), some (.int p0), some (.int s1)], [.int p0, .int x2])) 1 rfl ?_
    refine ax_Wp.brD hD rfl (fun _ hD => ?_) (fun _ hD => ?_)
    · refine ax_Wp.go (f' := (18, [some (.ref 5), some (.int p0), some (.int s1)], [.int s1])) 1 rfl ?_
      obtain rfl := inj hD
      obtain rfl := ks1.o
      exact ax_Wp.ret rfl ⟨rfl, rfl⟩
    · refine ax_Wp.go (f' := (2, [some (.ref 5), some (.int p0), some (.int (s1 + (nI 1)))], [])) 2 rfl ?_
      obtain rfl := inj hD
      exact ks1.i
def D43 (m : dM) : Option (dM) := (fI m 15 1 (nI 0)).bind fun (m1 : dM) => (D42 m1).bind fun (x2 : Int64) => (D23 m1 x2).bind fun (r3 : dM) => some r3
set_option maxRecDepth 20000 in
theorem w_43 {X : Nat × (Nat → Int32)} {d : Nat} {m : dM} {r : dM} (hD : D43 m = some r) : ax_Ev X (d + 2) 33 [.ref 1] (stt m) (.inl none) (stt r) := by
  unfold D43 at hD
  show ax_Wp X (d + 1 + 1) 33 (0, [some (.ref 1)], []) (stt m) _
  refine ax_Wp.go (f' := (5, [some (.ref 1)], [.int (nI 0), .ref 15])) 3 rfl ?_
  refine ax_Wp.ptI hD rfl rfl rfl (fun m1 hD => ?_)
  refine ax_Wp.go (f' := (13, [some (.ref 1)], [.ref 1, .ref 15])) 3 rfl ?_
  refine bnd hD (fun x2 hx hD => ?_)
  refine ax_Wp.callE (f' := (16, [some (.ref 1)], [.ref 15])) rfl rfl (w_42 (d := d + 0) hx) rfl ?_
  refine bnd hD (fun r3 hx hD => ?_)
  refine ax_Wp.callE (f' := (19, [some (.ref 1)], [])) rfl rfl (w_23 (d := d + 0) hx) rfl ?_
  obtain rfl := inj hD
  exact ax_Wp.ret rfl ⟨rfl, rfl⟩
def D48 (m : dM) (p0 : Int32) (p1 : Int32) : Option (Int32 × dM) := (D128 p0).bind fun (x1 : Int32) => if x1 = (nI 0) then some ((-1), m) else (gI m 6 4 p0).bind fun (x2 : Int32) => (sI m 6 4 p0 p1).bind fun (m3 : dM) => (D4 m3 p0).bind fun (r4 : Int32 × dM) => (D43 r4.2).bind fun (r5 : dM) => some (x2, r5)
set_option maxRecDepth 20000 in
theorem w_48 {X : Nat × (Nat → Int32)} {d : Nat} {m : dM} {p0 : Int32} {p1 : Int32} {r : Int32 × dM} (hD : D48 m p0 p1 = some r) : ax_Ev X (d + 3) 38 [.ref 1, .int p0, .int p1] (stt m) (.inl (some (.int r.1))) (stt r.2) := by
  unfold D48 at hD
  show ax_Wp X (d + 2 + 1) 38 (0, [some (.ref 1), some (.int p0), some (.int p1), none], []) (stt m) _
  refine ax_Wp.go (f' := (1, [some (.ref 1), some (.int p0), some (.int p1), none], [.int p0])) 1 rfl ?_
  refine bnd hD (fun x1 hx hD => ?_)
  refine ax_Wp.callE (f' := (4, [some (.ref 1), some (.int p0), some (.int p1), none], [])) rfl rfl (w_128 (d := d + 1) hx) rfl ?_
  refine ax_Wp.brD hD rfl (fun _ hD => ?_) (fun _ hD => ?_)
  · refine ax_Wp.go (f' := (8, [some (.ref 1), some (.int p0), some (.int p1), none], [.int (-1)])) 1 rfl ?_
    obtain rfl := inj hD
    exact ax_Wp.ret rfl ⟨rfl, rfl⟩
  · refine ax_Wp.go (f' := (17, [some (.ref 1), some (.int p0), some (.int p1), none], [.int p0, .ref 6])) 4 rfl ?_
    refine ax_Wp.rdI hD rfl rfl rfl (fun x2 hD => ?_)
    refine ax_Wp.go (f' := (28, [some (.ref 1), some (.int p0), some (.int p1), some (.int x2)], [.int p1, .int p0, .ref 6])) 6 rfl ?_
    refine ax_Wp.wrI hD rfl rfl (fun _ => rfl) (fun m3 hD => ?_)
    refine ax_Wp.go (f' := (34, [some (.ref 1), some (.int p0), some (.int p1), some (.int x2)], [.int p0, .ref 5])) 3 rfl ?_
    refine bnd hD (fun r4 hx hD => ?_)
    refine ax_Wp.callE (f' := (37, [some (.ref 1), some (.int p0), some (.int p1), some (.int x2)], [])) rfl rfl (w_4 (d := d + 0) hx) rfl ?_
    refine ax_Wp.go (f' := (39, [some (.ref 1), some (.int p0), some (.int p1), some (.int x2)], [.ref 1])) 2 rfl ?_
    refine bnd hD (fun r5 hx hD => ?_)
    refine ax_Wp.callE (f' := (42, [some (.ref 1), some (.int p0), some (.int p1), some (.int x2)], [])) rfl rfl (w_43 (d := d + 0) hx) rfl ?_
    refine ax_Wp.go (f' := (43, [some (.ref 1), some (.int p0), some (.int p1), some (.int x2)], [.int x2])) 1 rfl ?_
    obtain rfl := inj hD
    exact ax_Wp.ret rfl ⟨rfl, rfl⟩
def D72 (m : dM) (p0 : Int32) (p1 : Int32) : Option ((Int32 ⊕ Nat) × dM) := cT (D124 p0) m (fun (x1 : Unit) => cT (D123 p1) m (fun (x4 : Unit) => (D2 m p1).bind fun (x7 : Int32) => if x7 = (-1) then (D131 m).bind fun (r8 : dM) => (D48 r8 p0 p1).bind fun (r9 : Int32 × dM) => some (.inl r9.1, r9.2) else if x7 = p0 then (D131 m).bind fun (r10 : dM) => (D48 r10 p0 p1).bind fun (r11 : Int32 × dM) => some (.inl r11.1, r11.2) else some (.inr 2, (bump m))) (fun (j5 : Nat) (m6 : dM) => some (.inr j5, m6))) (fun (j2 : Nat) (m3 : dM) => some (.inr j2, m3))
set_option maxRecDepth 20000 in
theorem w_72 {X : Nat × (Nat → Int32)} {d : Nat} {m : dM} {p0 : Int32} {p1 : Int32} {r : (Int32 ⊕ Nat) × dM} (hD : D72 m p0 p1 = some r) : ax_Ev X (d + 7) 60 [.ref 0, .int p0, .int p1] (stt m) (oT (fun x => some (.int x)) r.1) (stt r.2) := by
  unfold D72 at hD
  show ax_Wp X (d + 6 + 1) 60 (0, [some (.ref 0), some (.int p0), some (.int p1), none], []) (stt m) _
  refine ax_Wp.go (f' := (1, [some (.ref 0), some (.int p0), some (.int p1), none], [.int p0])) 1 rfl ?_
  refine cT.sp hD (fun x1 hx hD => ?_) (fun j2 hx hD => ?_)
  · refine ax_Wp.callE (f' := (4, [some (.ref 0), some (.int p0), some (.int p1), none], [])) rfl rfl (w_124 (d := d + 0) hx) rfl ?_
    refine ax_Wp.go (f' := (5, [some (.ref 0), some (.int p0), some (.int p1), none], [.int p1])) 1 rfl ?_
    refine cT.sp hD (fun x4 hx hD => ?_) (fun j5 hx hD => ?_)
    · refine ax_Wp.callE (f' := (8, [some (.ref 0), some (.int p0), some (.int p1), none], [])) rfl rfl (w_123 (d := d + 0) hx) rfl ?_
      refine ax_Wp.go (f' := (16, [some (.ref 0), some (.int p0), some (.int p1), none], [.int p1, .ref 5])) 4 rfl ?_
      refine bnd hD (fun x7 hx hD => ?_)
      refine ax_Wp.callE (f' := (19, [some (.ref 0), some (.int p0), some (.int p1), none], [])) rfl rfl (w_2 (d := d + 5) hx) rfl ?_
      refine ax_Wp.go (f' := (22, [some (.ref 0), some (.int p0), some (.int p1), some (.int x7)], [.int (-1), .int x7])) 3 rfl ?_
      refine ax_Wp.brD hD rfl (fun _ hD => ?_) (fun _ hD => ?_)
      · refine ax_Wp.go (f' := (41, [some (.ref 0), some (.int p0), some (.int p1), some (.int x7)], [.ref 0])) 1 rfl ?_
        refine bnd hD (fun r8 hx hD => ?_)
        refine ax_Wp.callE (f' := (44, [some (.ref 0), some (.int p0), some (.int p1), some (.int x7)], [])) rfl rfl (w_131 (d := d + 3) hx) rfl ?_
        refine ax_Wp.go (f' := (50, [some (.ref 0), some (.int p0), some (.int p1), some (.int x7)], [.int p1, .int p0, .ref 1])) 4 rfl ?_
        refine bnd hD (fun r9 hx hD => ?_)
        refine ax_Wp.callE (f' := (53, [some (.ref 0), some (.int p0), some (.int p1), some (.int x7)], [])) rfl rfl (w_48 (d := d + 3) hx) rfl ?_
        obtain rfl := inj hD
        exact ax_Wp.ret rfl ⟨rfl, rfl⟩
      · refine ax_Wp.go (f' := (27, [some (.ref 0), some (.int p0), some (.int p1), some (.int x7)], [.int p0, .int x7])) 2 rfl ?_
        refine ax_Wp.brD hD rfl (fun _ hD => ?_) (fun _ hD => ?_)
        · refine ax_Wp.go (f' := (41, [some (.ref 0), some (.int p0), some (.int p1), some (.int x7)], [.ref 0])) 1 rfl ?_
          refine bnd hD (fun r10 hx hD => ?_)
          refine ax_Wp.callE (f' := (44, [some (.ref 0), some (.int p0), some (.int p1), some (.int x7)], [])) rfl rfl (w_131 (d := d + 3) hx) rfl ?_
          refine ax_Wp.go (f' := (50, [some (.ref 0), some (.int p0), some (.int p1), some (.int x7)], [.int p1, .int p0, .ref 1])) 4 rfl ?_
          refine bnd hD (fun r11 hx hD => ?_)
          refine ax_Wp.callE (f' := (53, [some (.ref 0), some (.int p0), some (.int p1), some (.int x7)], [])) rfl rfl (w_48 (d := d + 3) hx) rfl ?_
          obtain rfl := inj hD
          exact ax_Wp.ret rfl ⟨rfl, rfl⟩
        · obtain rfl := inj hD
          exact ax_Wp.thr rfl (ax_six _ rfl) ⟨rfl, rfl⟩
    · obtain rfl := inj hD
      exact ax_Wp.callX (f' := (8, [some (.ref 0), some (.int p0), some (.int p1), none], [])) rfl rfl (w_123 (d := d + 0) hx) rfl ⟨rfl, rfl⟩
  · obtain rfl := inj hD
    exact ax_Wp.callX (f' := (4, [some (.ref 0), some (.int p0), some (.int p1), none], [])) rfl rfl (w_124 (d := d + 0) hx) rfl ⟨rfl, rfl⟩
def D126 (m : dM) (p0 : Int32) : Option (Unit ⊕ Nat) := (D59 m p0).bind fun (x1 : Int32) => if x1 = (nI 0) then some (.inr 0) else some (.inl ())
set_option maxRecDepth 20000 in
theorem w_126 {X : Nat × (Nat → Int32)} {d : Nat} {m : dM} {p0 : Int32} {r : Unit ⊕ Nat} (hD : D126 m p0 = some r) : ax_Ev X (d + 6) 103 [.ref 0, .int p0] (stt m) (oT (fun (_ : Unit) => none) r) (stt (bT m r)) := by
  unfold D126 at hD
  show ax_Wp X (d + 5 + 1) 103 (0, [some (.ref 0), some (.int p0)], []) (stt m) _
  refine ax_Wp.go (f' := (8, [some (.ref 0), some (.int p0)], [.int p0, .ref 2])) 4 rfl ?_
  refine bnd hD (fun x1 hx hD => ?_)
  refine ax_Wp.callE (f' := (11, [some (.ref 0), some (.int p0)], [])) rfl rfl (w_59 (d := d + 4) hx) rfl ?_
  refine ax_Wp.brD hD rfl (fun _ hD => ?_) (fun _ hD => ?_)
  · obtain rfl := inj hD
    exact ax_Wp.thr rfl (ax_six _ rfl) ⟨rfl, rfl⟩
  · obtain rfl := inj hD
    exact ax_Wp.ret rfl ⟨rfl, rfl⟩
def D62 (m : dM) (p0 : Int32) : Option (Int32) := Option.bind ((if (((rI m 2 3) >>> (p0 &&& nI 31)) &&& (nI 1)) = (nI 1) then some (nI 1) else some (nI 0)) : Option (Int32)) fun (v1 : Int32) => (gB v1).bind fun (b2 : Int32) => some b2
set_option maxRecDepth 20000 in
theorem w_62 {X : Nat × (Nat → Int32)} {d : Nat} {m : dM} {p0 : Int32} {r : Int32} (hD : D62 m p0 = some r) : ax_Ev X (d + 1) 50 [.ref 2, .int p0] (stt m) (.inl (some (.int r))) (stt m) := by
  unfold D62 at hD
  show ax_Wp X (d + 0 + 1) 50 (0, [some (.ref 2), some (.int p0)], []) (stt m) _
  refine ax_Wp.go (f' := (9, [some (.ref 2), some (.int p0)], [.int (nI 1), .int (((rI m 2 3) >>> (p0 &&& nI 31)) &&& (nI 1))])) 7 rfl ?_
  refine bnd hD (fun v1 hx hD => ?_)
  refine ax_Wp.jn (F := (17, [some (.ref 2), none], [.int v1])) (hh := stt m) ?_ (fun kkv1 => ?_)
  · refine ax_Wp.retB hD rfl (fun b2 hD => ?_)
    obtain rfl := inj hD
    exact ⟨rfl, rfl⟩
  clear hD
  have hD := hx
  clear hx
  refine ax_Wp.brD hD rfl (fun _ hD => ?_) (fun _ hD => ?_)
  · refine ax_Wp.go (f' := (17, [some (.ref 2), some (.int p0)], [.int (nI 1)])) 2 rfl ?_
    obtain rfl := inj hD
    exact ax_Wp.dead kkv1 ⟨.inl rfl, ⟨.inr ⟨rfl, trivial⟩, trivial⟩⟩
  · refine ax_Wp.go (f' := (17, [some (.ref 2), some (.int p0)], [.int (nI 0)])) 1 rfl ?_
    obtain rfl := inj hD
    exact ax_Wp.dead kkv1 ⟨.inl rfl, ⟨.inr ⟨rfl, trivial⟩, trivial⟩⟩
def D5 (m : dM) (p0 : Int32) : Option (dM) := Option.bind (lp (β := dM) 3000 (fun (s1 : Int32 × dM) => if (nI 4) ≤ s1.1 then some (.inr s1.2) else (gI s1.2 7 4 s1.1).bind fun (x3 : Int32) => Option.bind ((if x3 = p0 then (sI s1.2 7 4 s1.1 (-1)).bind fun (m5 : dM) => some m5 else some s1.2) : Option (dM)) fun (v4 : dM) => some (.inl (s1.1 + (nI 1), v4))) (nI 0, m)) fun (v2 : dM) => some v2
set_option maxRecDepth 20000 in
theorem w_5 {X : Nat × (Nat → Int32)} {d : Nat} {m : dM} {p0 : Int32} {r : dM} (hD : D5 m p0 = some r) : ax_Ev X (d + 1) 5 [.ref 5, .int p0] (stt m) (.inl none) (stt r) := by
  unfold D5 at hD
  show ax_Wp X (d + 0 + 1) 5 (0, [some (.ref 5), some (.int p0), none], []) (stt m) _
  refine ax_Wp.go (f' := (2, [some (.ref 5), some (.int p0), some (.int (nI 0))], [])) 2 rfl ?_
  refine bnd hD (fun v2 hx hD => ?_)
  refine ax_Wp.jn (F := (30, [some (.ref 5), none, none], [])) (hh := stt v2) ?_ (fun kkv2 => ?_)
  · obtain rfl := inj hD
    exact ax_Wp.ret rfl ⟨rfl, rfl⟩
  clear hD
  refine ax_Wp.lpD (fun (s1 : Int32 × dM) => ((2, [some (.ref 5), some (.int p0), some (.int s1.1)], []), stt s1.2)) ?_ hx
  clear hx
  intro s1 v hD ks1
  refine ax_Wp.go (f' := (4, [some (.ref 5), some (.int p0), some (.int s1.1)], [.int (nI 4), .int s1.1])) 2 rfl ?_
  refine ax_Wp.brD hD rfl (fun _ hD => ?_) (fun _ hD => ?_)
  · obtain rfl := inj hD
    obtain rfl := ks1.o
    exact ax_Wp.dead kkv2 ⟨.inl rfl, ⟨.inr ⟨rfl, trivial⟩, ⟨.inr ⟨rfl, trivial⟩, trivial⟩⟩⟩
  · refine ax_Wp.go (f' := (12, [some (.ref 5), some (.int p0), some (.int s1.1)], [.int s1.1, .ref 7])) 3 rfl ?_
    refine ax_Wp.rdI hD rfl rfl rfl (fun x3 hD => ?_)
    refine ax_Wp.go (f' := (14, [some (.ref 5), some (.int p0), some (.int s1.1)], [.int p0, .int x3])) 1 rfl ?_
    refine bnd hD (fun v4 hx hD => ?_)
    refine ax_Wp.jn (F := (24, [some (.ref 5), some (.int p0), some (.int s1.1)], [])) (hh := stt v4) ?_ (fun kkv4 => ?_)
    · refine ax_Wp.go (f' := (2, [some (.ref 5), some (.int p0), some (.int (s1.1 + (nI 1)))], [])) 2 rfl ?_
      obtain rfl := inj hD
      exact ks1.i
    clear hD
    have hD := hx
    clear hx
    refine ax_Wp.brD hD rfl (fun _ hD => ?_) (fun _ hD => ?_)
    · refine ax_Wp.go (f' := (23, [some (.ref 5), some (.int p0), some (.int s1.1)], [.int (-1), .int s1.1, .ref 7])) 4 rfl ?_
      refine ax_Wp.wrI hD rfl rfl (fun _ => rfl) (fun m5 hD => ?_)
      obtain rfl := inj hD
      exact kkv4
    · obtain rfl := inj hD
      exact kkv4
def D47 (m : dM) (p0 : Int32) : Option (Int32 × dM) := (fI m 2 3 ((rI m 2 3) ^^^ ((nI 1) <<< (p0 &&& nI 31)))).bind fun (m1 : dM) => (D62 m1 p0).bind fun (x2 : Int32) => Option.bind ((if x2 = (nI 0) then (D5 m1 p0).bind fun (r4 : dM) => some r4 else some m1) : Option (dM)) fun (v3 : dM) => (D62 v3 p0).bind fun (x5 : Int32) => (gB x5).bind fun (b6 : Int32) => some (b6, v3)
set_option maxRecDepth 20000 in
theorem w_47 {X : Nat × (Nat → Int32)} {d : Nat} {m : dM} {p0 : Int32} {r : Int32 × dM} (hD : D47 m p0 = some r) : ax_Ev X (d + 2) 37 [.ref 1, .int p0] (stt m) (.inl (some (.int r.1))) (stt r.2) := by
  unfold D47 at hD
  show ax_Wp X (d + 1 + 1) 37 (0, [some (.ref 1), some (.int p0)], []) (stt m) _
  refine ax_Wp.go (f' := (12, [some (.ref 1), some (.int p0)], [.int ((rI m 2 3) ^^^ ((nI 1) <<< (p0 &&& nI 31))), .ref 2])) 8 rfl ?_
  refine ax_Wp.ptI hD rfl rfl rfl (fun m1 hD => ?_)
  refine ax_Wp.go (f' := (20, [some (.ref 1), some (.int p0)], [.int p0, .ref 2])) 3 rfl ?_
  refine bnd hD (fun x2 hx hD => ?_)
  refine ax_Wp.callE (f' := (23, [some (.ref 1), some (.int p0)], [])) rfl rfl (w_62 (d := d + 0) hx) rfl ?_
  refine bnd hD (fun v3 hx hD => ?_)
  refine ax_Wp.jn (F := (34, [some (.ref 1), some (.int p0)], [])) (hh := stt v3) ?_ (fun kkv3 => ?_)
  · refine ax_Wp.go (f' := (39, [some (.ref 1), some (.int p0)], [.int p0, .ref 2])) 3 rfl ?_
    refine bnd hD (fun x5 hx hD => ?_)
    refine ax_Wp.callE (f' := (42, [some (.ref 1), some (.int p0)], [])) rfl rfl (w_62 (d := d + 0) hx) rfl ?_
    refine ax_Wp.retB hD rfl (fun b6 hD => ?_)
    obtain rfl := inj hD
    exact ⟨rfl, rfl⟩
  clear hD
  have hD := hx
  clear hx
  refine ax_Wp.brD hD rfl (fun _ hD => ?_) (fun _ hD => ?_)
  · refine ax_Wp.go (f' := (31, [some (.ref 1), some (.int p0)], [.int p0, .ref 5])) 3 rfl ?_
    refine bnd hD (fun r4 hx hD => ?_)
    refine ax_Wp.callE (f' := (34, [some (.ref 1), some (.int p0)], [])) rfl rfl (w_5 (d := d + 0) hx) rfl ?_
    obtain rfl := inj hD
    exact kkv3
  · obtain rfl := inj hD
    exact kkv3
def D71 (m : dM) (p0 : Int32) : Option ((Int32 ⊕ Nat) × dM) := cT (D126 m p0) m (fun (x1 : Unit) => (D131 m).bind fun (r4 : dM) => (D47 r4 p0).bind fun (r5 : Int32 × dM) => (gB r5.1).bind fun (b6 : Int32) => some (.inl b6, r5.2)) (fun (j2 : Nat) (m3 : dM) => some (.inr j2, m3))
set_option maxRecDepth 20000 in
theorem w_71 {X : Nat × (Nat → Int32)} {d : Nat} {m : dM} {p0 : Int32} {r : (Int32 ⊕ Nat) × dM} (hD : D71 m p0 = some r) : ax_Ev X (d + 7) 59 [.ref 0, .int p0] (stt m) (oT (fun x => some (.int x)) r.1) (stt r.2) := by
  unfold D71 at hD
  show ax_Wp X (d + 6 + 1) 59 (0, [some (.ref 0), some (.int p0)], []) (stt m) _
  refine ax_Wp.go (f' := (2, [some (.ref 0), some (.int p0)], [.int p0, .ref 0])) 2 rfl ?_
  refine cT.sp hD (fun x1 hx hD => ?_) (fun j2 hx hD => ?_)
  · refine ax_Wp.callE (f' := (5, [some (.ref 0), some (.int p0)], [])) rfl rfl (w_126 (d := d + 0) hx) rfl ?_
    refine ax_Wp.go (f' := (6, [some (.ref 0), some (.int p0)], [.ref 0])) 1 rfl ?_
    refine bnd hD (fun r4 hx hD => ?_)
    refine ax_Wp.callE (f' := (9, [some (.ref 0), some (.int p0)], [])) rfl rfl (w_131 (d := d + 3) hx) rfl ?_
    refine ax_Wp.go (f' := (14, [some (.ref 0), some (.int p0)], [.int p0, .ref 1])) 3 rfl ?_
    refine bnd hD (fun r5 hx hD => ?_)
    refine ax_Wp.callE (f' := (17, [some (.ref 0), some (.int p0)], [])) rfl rfl (w_47 (d := d + 4) hx) rfl ?_
    refine ax_Wp.retB hD rfl (fun b6 hD => ?_)
    obtain rfl := inj hD
    exact ⟨rfl, rfl⟩
  · obtain rfl := inj hD
    exact ax_Wp.callX (f' := (5, [some (.ref 0), some (.int p0)], [])) rfl rfl (w_126 (d := d + 0) hx) rfl ⟨rfl, rfl⟩
def D101 (m : dM) : Option (Int32) := some (rI m 10 4)
set_option maxRecDepth 20000 in
theorem w_101 {X : Nat × (Nat → Int32)} {d : Nat} {m : dM} {r : Int32} (hD : D101 m = some r) : ax_Ev X (d + 1) 80 [.ref 0] (stt m) (.inl (some (.int r))) (stt m) := by
  unfold D101 at hD
  show ax_Wp X (d + 0 + 1) 80 (0, [some (.ref 0)], []) (stt m) _
  refine ax_Wp.go (f' := (10, [some (.ref 0)], [.int (rI m 10 4)])) 4 rfl ?_
  obtain rfl := inj hD
  exact ax_Wp.ret rfl ⟨rfl, rfl⟩
def D30 (m : dM) (p0 : Int32) (p1 : Int32) (p2 : Int32) (p3 : Int32) : Option (Int32 × dM) := if (rI m 10 4) < (nI 8) then (sI m 14 8 (rI m 10 4) p0).bind fun (m1 : dM) => (sI m1 11 8 (rI m 10 4) p1).bind fun (m2 : dM) => (sI m2 12 8 (rI m 10 4) p2).bind fun (m3 : dM) => (sI m3 13 8 (rI m 10 4) p3).bind fun (m4 : dM) => (fI m4 10 4 ((rI m4 10 4) + (nI 1))).bind fun (m5 : dM) => some (rI m 10 4, m5) else some ((-1), m)
set_option maxRecDepth 20000 in
theorem w_30 {X : Nat × (Nat → Int32)} {d : Nat} {m : dM} {p0 : Int32} {p1 : Int32} {p2 : Int32} {p3 : Int32} {r : Int32 × dM} (hD : D30 m p0 p1 p2 p3 = some r) : ax_Ev X (d + 1) 20 [.ref 10, .int p0, .int p1, .int p2, .int p3] (stt m) (.inl (some (.int r.1))) (stt r.2) := by
  unfold D30 at hD
  show ax_Wp X (d + 0 + 1) 20 (0, [some (.ref 10), some (.int p0), some (.int p1), some (.int p2), some (.int p3), none], []) (stt m) _
  refine ax_Wp.go (f' := (10, [some (.ref 10), some (.int p0), some (.int p1), some (.int p2), some (.int p3), some (.int (rI m 10 4))], [.int (nI 8), .int (rI m 10 4)])) 5 rfl ?_
  refine ax_Wp.brD hD rfl (fun _ hD => ?_) (fun _ hD => ?_)
  · refine ax_Wp.go (f' := (22, [some (.ref 10), some (.int p0), some (.int p1), some (.int p2), some (.int p3), some (.int (rI m 10 4))], [.int p0, .int (rI m 10 4), .ref 14])) 4 rfl ?_
    refine ax_Wp.wrI hD rfl rfl (fun _ => rfl) (fun m1 hD => ?_)
    refine ax_Wp.go (f' := (30, [some (.ref 10), some (.int p0), some (.int p1), some (.int p2), some (.int p3), some (.int (rI m 10 4))], [.int p1, .int (rI m 10 4), .ref 11])) 4 rfl ?_
    refine ax_Wp.wrI hD rfl rfl (fun _ => rfl) (fun m2 hD => ?_)
    refine ax_Wp.go (f' := (38, [some (.ref 10), some (.int p0), some (.int p1), some (.int p2), some (.int p3), some (.int (rI m 10 4))], [.int p2, .int (rI m 10 4), .ref 12])) 4 rfl ?_
    refine ax_Wp.wrI hD rfl rfl (fun _ => rfl) (fun m3 hD => ?_)
    refine ax_Wp.go (f' := (47, [some (.ref 10), some (.int p0), some (.int p1), some (.int p2), some (.int p3), some (.int (rI m 10 4))], [.int p3, .int (rI m 10 4), .ref 13])) 4 rfl ?_
    refine ax_Wp.wrI hD rfl rfl (fun _ => rfl) (fun m4 hD => ?_)
    refine ax_Wp.go (f' := (55, [some (.ref 10), some (.int p0), some (.int p1), some (.int p2), some (.int p3), some (.int (rI m 10 4))], [.int ((rI m4 10 4) + (nI 1)), .ref 10])) 5 rfl ?_
    refine ax_Wp.ptI hD rfl rfl rfl (fun m5 hD => ?_)
    refine ax_Wp.go (f' := (60, [some (.ref 10), some (.int p0), some (.int p1), some (.int p2), some (.int p3), some (.int (rI m 10 4))], [.int (rI m 10 4)])) 1 rfl ?_
    obtain rfl := inj hD
    exact ax_Wp.ret rfl ⟨rfl, rfl⟩
  · refine ax_Wp.go (f' := (14, [some (.ref 10), some (.int p0), some (.int p1), some (.int p2), some (.int p3), some (.int (rI m 10 4))], [.int (-1)])) 1 rfl ?_
    obtain rfl := inj hD
    exact ax_Wp.ret rfl ⟨rfl, rfl⟩
def D75 (m : dM) (p0 : Int32) (p1 : Int32) (p2 : Int32) (p3 : Int32) : Option ((Int32 ⊕ Nat) × dM) := cT (D123 p0) m (fun (x1 : Unit) => cT (D123 p1) m (fun (x4 : Unit) => if p0 = p1 then some (.inr 1, (bump m)) else if p2 < (nI 1) then some (.inr 1, (bump m)) else if (nI 5) < p2 then some (.inr 1, (bump m)) else if p3 < (nI 1) then some (.inr 1, (bump m)) else if p3 ≤ (nI 9) then if (rI m 10 4) < (nI 8) then (D131 m).bind fun (r7 : dM) => (D30 r7 p0 p1 p2 p3).bind fun (r8 : Int32 × dM) => (D43 r8.2).bind fun (r9 : dM) => some (.inl r8.1, r9) else some (.inr 2, (bump m)) else some (.inr 1, (bump m))) (fun (j5 : Nat) (m6 : dM) => some (.inr j5, m6))) (fun (j2 : Nat) (m3 : dM) => some (.inr j2, m3))
set_option maxRecDepth 20000 in
theorem w_75 {X : Nat × (Nat → Int32)} {d : Nat} {m : dM} {p0 : Int32} {p1 : Int32} {p2 : Int32} {p3 : Int32} {r : (Int32 ⊕ Nat) × dM} (hD : D75 m p0 p1 p2 p3 = some r) : ax_Ev X (d + 7) 62 [.ref 0, .int p0, .int p1, .int p2, .int p3] (stt m) (oT (fun x => some (.int x)) r.1) (stt r.2) := by
  unfold D75 at hD
  show ax_Wp X (d + 6 + 1) 62 (0, [some (.ref 0), some (.int p0), some (.int p1), some (.int p2), some (.int p3), none], []) (stt m) _
  refine ax_Wp.go (f' := (1, [some (.ref 0), some (.int p0), some (.int p1), some (.int p2), some (.int p3), none], [.int p0])) 1 rfl ?_
  refine cT.sp hD (fun x1 hx hD => ?_) (fun j2 hx hD => ?_)
  · refine ax_Wp.callE (f' := (4, [some (.ref 0), some (.int p0), some (.int p1), some (.int p2), some (.int p3), none], [])) rfl rfl (w_123 (d := d + 0) hx) rfl ?_
    refine ax_Wp.go (f' := (5, [some (.ref 0), some (.int p0), some (.int p1), some (.int p2), some (.int p3), none], [.int p1])) 1 rfl ?_
    refine cT.sp hD (fun x4 hx hD => ?_) (fun j5 hx hD => ?_)
    · refine ax_Wp.callE (f' := (8, [some (.ref 0), some (.int p0), some (.int p1), some (.int p2), some (.int p3), none], [])) rfl rfl (w_123 (d := d + 0) hx) rfl ?_
      refine ax_Wp.go (f' := (10, [some (.ref 0), some (.int p0), some (.int p1), some (.int p2), some (.int p3), none], [.int p1, .int p0])) 2 rfl ?_
      refine ax_Wp.brD hD rfl (fun _ hD => ?_) (fun _ hD => ?_)
      · obtain rfl := inj hD
        exact ax_Wp.thr rfl (ax_six _ rfl) ⟨rfl, rfl⟩
      · refine ax_Wp.go (f' := (15, [some (.ref 0), some (.int p0), some (.int p1), some (.int p2), some (.int p3), none], [.int (nI 1), .int p2])) 2 rfl ?_
        refine ax_Wp.brD hD rfl (fun _ hD => ?_) (fun _ hD => ?_)
        · obtain rfl := inj hD
          exact ax_Wp.thr rfl (ax_six _ rfl) ⟨rfl, rfl⟩
        · refine ax_Wp.go (f' := (20, [some (.ref 0), some (.int p0), some (.int p1), some (.int p2), some (.int p3), none], [.int (nI 5), .int p2])) 2 rfl ?_
          refine ax_Wp.brD hD rfl (fun _ hD => ?_) (fun _ hD => ?_)
          · obtain rfl := inj hD
            exact ax_Wp.thr rfl (ax_six _ rfl) ⟨rfl, rfl⟩
          · refine ax_Wp.go (f' := (26, [some (.ref 0), some (.int p0), some (.int p1), some (.int p2), some (.int p3), none], [.int (nI 1), .int p3])) 2 rfl ?_
            refine ax_Wp.brD hD rfl (fun _ hD => ?_) (fun _ hD => ?_)
            · obtain rfl := inj hD
              exact ax_Wp.thr rfl (ax_six _ rfl) ⟨rfl, rfl⟩
            · refine ax_Wp.go (f' := (33, [some (.ref 0), some (.int p0), some (.int p1), some (.int p2), some (.int p3), none], [.int (nI 9), .int p3])) 2 rfl ?_
              refine ax_Wp.brD hD rfl (fun _ hD => ?_) (fun _ hD => ?_)
              · refine ax_Wp.go (f' := (58, [some (.ref 0), some (.int p0), some (.int p1), some (.int p2), some (.int p3), none], [.int (nI 8), .int (rI m 10 4)])) 5 rfl ?_
                refine ax_Wp.brD hD rfl (fun _ hD => ?_) (fun _ hD => ?_)
                · refine ax_Wp.go (f' := (72, [some (.ref 0), some (.int p0), some (.int p1), some (.int p2), some (.int p3), none], [.ref 0])) 1 rfl ?_
                  refine bnd hD (fun r7 hx hD => ?_)
                  refine ax_Wp.callE (f' := (75, [some (.ref 0), some (.int p0), some (.int p1), some (.int p2), some (.int p3), none], [])) rfl rfl (w_131 (d := d + 3) hx) rfl ?_
                  refine ax_Wp.go (f' := (87, [some (.ref 0), some (.int p0), some (.int p1), some (.int p2), some (.int p3), none], [.int p3, .int p2, .int p1, .int p0, .ref 10])) 7 rfl ?_
                  refine bnd hD (fun r8 hx hD => ?_)
                  refine ax_Wp.callE (f' := (90, [some (.ref 0), some (.int p0), some (.int p1), some (.int p2), some (.int p3), none], [])) rfl rfl (w_30 (d := d + 5) hx) rfl ?_
                  refine ax_Wp.go (f' := (96, [some (.ref 0), some (.int p0), some (.int p1), some (.int p2), some (.int p3), some (.int r8.1)], [.ref 1])) 3 rfl ?_
                  refine bnd hD (fun r9 hx hD => ?_)
                  refine ax_Wp.callE (f' := (99, [some (.ref 0), some (.int p0), some (.int p1), some (.int p2), some (.int p3), some (.int r8.1)], [])) rfl rfl (w_43 (d := d + 4) hx) rfl ?_
                  refine ax_Wp.go (f' := (101, [some (.ref 0), some (.int p0), some (.int p1), some (.int p2), some (.int p3), some (.int r8.1)], [.int r8.1])) 1 rfl ?_
                  obtain rfl := inj hD
                  exact ax_Wp.ret rfl ⟨rfl, rfl⟩
                · obtain rfl := inj hD
                  exact ax_Wp.thr rfl (ax_six _ rfl) ⟨rfl, rfl⟩
              · obtain rfl := inj hD
                exact ax_Wp.thr rfl (ax_six _ rfl) ⟨rfl, rfl⟩
    · obtain rfl := inj hD
      exact ax_Wp.callX (f' := (8, [some (.ref 0), some (.int p0), some (.int p1), some (.int p2), some (.int p3), none], [])) rfl rfl (w_123 (d := d + 0) hx) rfl ⟨rfl, rfl⟩
  · obtain rfl := inj hD
    exact ax_Wp.callX (f' := (4, [some (.ref 0), some (.int p0), some (.int p1), some (.int p2), some (.int p3), none], [])) rfl rfl (w_123 (d := d + 0) hx) rfl ⟨rfl, rfl⟩
