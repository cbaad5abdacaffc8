/-! WHAT METHODS DO, printed of their bytecode: 4 -/
def D130 (p0 : Int32) : Option (Int32) := Option.bind ((if (nI 2) ≤ p0 then some (nI 1) else some (nI 0)) : Option (Int32)) fun (v1 : Int32) => some v1
set_option maxRecDepth 20000 in
theorem w_130 {X : Nat × (Nat → Int32)} {d : Nat} {m : dM} {p0 : Int32} {r : Int32} (hD : D130 p0 = some r) : ax_Ev X (d + 1) 130 [.int p0] (stt m) (.inl (some (.int r))) (stt m) := by
  unfold D130 at hD
  show ax_Wp X (d + 0 + 1) 130 (0, [some (.int p0)], []) (stt m) _
  refine ax_Wp.go (f' := (2, [some (.int p0)], [.int (nI 2), .int p0])) 2 rfl ?_
  refine bnd hD (fun v1 hx hD => ?_)
  refine ax_Wp.jn (F := (10, [none], [.int v1])) (hh := stt m) ?_ (fun kkv1 => ?_)
  · obtain rfl := inj hD
    exact ax_Wp.ret rfl ⟨rfl, rfl⟩
  clear hD
  have hD := hx
  clear hx
  refine ax_Wp.brD hD rfl (fun _ hD => ?_) (fun _ hD => ?_)
  · refine ax_Wp.go (f' := (10, [some (.int p0)], [.int (nI 1)])) 1 rfl ?_
    obtain rfl := inj hD
    exact ax_Wp.dead kkv1 ⟨.inr ⟨rfl, trivial⟩, trivial⟩
  · refine ax_Wp.go (f' := (10, [some (.int p0)], [.int (nI 0)])) 2 rfl ?_
    obtain rfl := inj hD
    exact ax_Wp.dead kkv1 ⟨.inr ⟨rfl, trivial⟩, trivial⟩
def D37 (m : dM) (p0 : Int32) (p1 : Int32) : Option (Int32 × dM) := Option.bind (lp (β := Int32 × dM) 3000 (fun (s1 : Int32 × Int32 × dM) => if (rI s1.2.2 10 4) ≤ s1.2.1 then some (.inr (s1.1, s1.2.2)) else (gI s1.2.2 14 8 s1.2.1).bind fun (x3 : Int32) => Option.bind ((if x3 = ((nI 10) + p0) then (gI s1.2.2 11 8 s1.2.1).bind fun (x5 : Int32) => if x5 = p1 then (sI s1.2.2 14 8 s1.2.1 ((nI 14) + p0)).bind fun (m6 : dM) => (gI m6 13 8 s1.2.1).bind fun (x7 : Int32) => some (s1.1 + x7, m6) else some (s1.1, s1.2.2) else some (s1.1, s1.2.2)) : Option (Int32 × dM)) fun (v4 : Int32 × dM) => some (.inl (v4.1, s1.2.1 + (nI 1), v4.2))) (nI 0, nI 0, m)) fun (v2 : Int32 × dM) => some (v2.1, v2.2)
set_option maxRecDepth 20000 in
theorem w_37 {X : Nat × (Nat → Int32)} {d : Nat} {m : dM} {p0 : Int32} {p1 : Int32} {r : Int32 × dM} (hD : D37 m p0 p1 = some r) : ax_Ev X (d + 1) 37 [.ref 10, .int p0, .int p1] (stt m) (.inl (some (.int r.1))) (stt r.2) := by
  unfold D37 at hD
  show ax_Wp X (d + 0 + 1) 37 (0, [some (.ref 10), some (.int p0), some (.int p1), none, none], []) (stt m) _
  refine ax_Wp.go (f' := (5, [some (.ref 10), some (.int p0), some (.int p1), some (.int (nI 0)), some (.int (nI 0))], [])) 4 rfl ?_
  refine bnd hD (fun v2 hx hD => ?_)
  refine ax_Wp.jn (F := (66, [some (.ref 10), none, none, some (.int v2.1), none], [])) (hh := stt v2.2) ?_ (fun kkv2 => ?_)
  · refine ax_Wp.go (f' := (67, [some (.ref 10), none, none, some (.int v2.1), none], [.int v2.1])) 1 rfl ?_
    obtain rfl := inj hD
    exact ax_Wp.ret rfl ⟨rfl, rfl⟩
  clear hD
  refine ax_Wp.lpD (fun (s1 : Int32 × Int32 × dM) => ((5, [some (.ref 10), some (.int p0), some (.int p1), some (.int s1.1), some (.int s1.2.1)], []), stt s1.2.2)) ?_ hx
  clear hx
  intro s1 v hD ks1
  refine ax_Wp.go (f' := (11, [some (.ref 10), some (.int p0), some (.int p1), some (.int s1.1), some (.int s1.2.1)], [.int (rI s1.2.2 10 4), .int s1.2.1])) 3 rfl ?_
  refine ax_Wp.brD hD rfl (fun _ hD => ?_) (fun _ hD => ?_)
  · obtain rfl := inj hD
    obtain rfl := ks1.o
    exact ax_Wp.dead kkv2 ⟨.inl rfl, ⟨.inr ⟨rfl, trivial⟩, ⟨.inr ⟨rfl, trivial⟩, ⟨.inl rfl, ⟨.inr ⟨rfl, trivial⟩, trivial⟩⟩⟩⟩⟩
  · refine ax_Wp.go (f' := (20, [some (.ref 10), some (.int p0), some (.int p1), some (.int s1.1), some (.int s1.2.1)], [.int s1.2.1, .ref 14])) 3 rfl ?_
    refine ax_Wp.rdI hD rfl rfl rfl (fun x3 hD => ?_)
    refine ax_Wp.go (f' := (25, [some (.ref 10), some (.int p0), some (.int p1), some (.int s1.1), some (.int s1.2.1)], [.int ((nI 10) + p0), .int x3])) 3 rfl ?_
    refine bnd hD (fun v4 hx hD => ?_)
    refine ax_Wp.jn (F := (60, [some (.ref 10), some (.int p0), some (.int p1), some (.int v4.1), some (.int s1.2.1)], [])) (hh := stt v4.2) ?_ (fun kkv4 => ?_)
    · refine ax_Wp.go (f' := (5, [some (.ref 10), some (.int p0), some (.int p1), some (.int v4.1), some (.int (s1.2.1 + (nI 1)))], [])) 2 rfl ?_
      obtain rfl := inj hD
      exact ks1.i
    clear hD
    have hD := hx
    clear hx
    refine ax_Wp.brD hD rfl (fun _ hD => ?_) (fun _ hD => ?_)
    · refine ax_Wp.go (f' := (34, [some (.ref 10), some (.int p0), some (.int p1), some (.int s1.1), some (.int s1.2.1)], [.int s1.2.1, .ref 11])) 3 rfl ?_
      refine ax_Wp.rdI hD rfl rfl rfl (fun x5 hD => ?_)
      refine ax_Wp.go (f' := (36, [some (.ref 10), some (.int p0), some (.int p1), some (.int s1.1), some (.int s1.2.1)], [.int p1, .int x5])) 1 rfl ?_
      refine ax_Wp.brD hD rfl (fun _ hD => ?_) (fun _ hD => ?_)
      · refine ax_Wp.go (f' := (49, [some (.ref 10), some (.int p0), some (.int p1), some (.int s1.1), some (.int s1.2.1)], [.int ((nI 14) + p0), .int s1.2.1, .ref 14])) 6 rfl ?_
        refine ax_Wp.wrI hD rfl rfl (fun _ => rfl) (fun m6 hD => ?_)
        refine ax_Wp.go (f' := (57, [some (.ref 10), some (.int p0), some (.int p1), some (.int s1.1), some (.int s1.2.1)], [.int s1.2.1, .ref 13, .int s1.1])) 4 rfl ?_
        refine ax_Wp.rdI hD rfl rfl rfl (fun x7 hD => ?_)
        refine ax_Wp.go (f' := (60, [some (.ref 10), some (.int p0), some (.int p1), some (.int (s1.1 + x7)), some (.int s1.2.1)], [])) 2 rfl ?_
        obtain rfl := inj hD
        exact kkv4
      · obtain rfl := inj hD
        exact kkv4
    · obtain rfl := inj hD
      exact kkv4
def D45 (m : dM) (p0 : Int32) : Option (Int32) := (D3 m p0).bind fun (x1 : Int32) => (D129 (rI m 1 5) x1).bind fun (x2 : Int32) => some x2
set_option maxRecDepth 20000 in
theorem w_45 {X : Nat × (Nat → Int32)} {d : Nat} {m : dM} {p0 : Int32} {r : Int32} (hD : D45 m p0 = some r) : ax_Ev X (d + 2) 45 [.ref 1, .int p0] (stt m) (.inl (some (.int r))) (stt m) := by
  unfold D45 at hD
  show ax_Wp X (d + 1 + 1) 45 (0, [some (.ref 1), some (.int p0)], []) (stt m) _
  refine ax_Wp.go (f' := (9, [some (.ref 1), some (.int p0)], [.int p0, .ref 5, .int (rI m 1 5)])) 5 rfl ?_
  refine bnd hD (fun x1 hx hD => ?_)
  refine ax_Wp.callE (f' := (12, [some (.ref 1), some (.int p0)], [.int (rI m 1 5)])) rfl rfl (w_3 (d := d + 0) hx) rfl ?_
  refine bnd hD (fun x2 hx hD => ?_)
  refine ax_Wp.callE (f' := (15, [some (.ref 1), some (.int p0)], [])) rfl rfl (w_129 (d := d + 0) hx) rfl ?_
  obtain rfl := inj hD
  exact ax_Wp.ret rfl ⟨rfl, rfl⟩
def D39 (m : dM) (p0 : Int32) (p1 : Int32) : Option (Int32) := Option.bind (lp (β := Int32) 3000 (fun (s1 : Int32 × Int32 × Int32 × Int32) => if (rI m 10 4) ≤ s1.2.2.2 then some (.inr s1.1) else (gI m 14 8 s1.2.2.2).bind fun (x3 : Int32) => Option.bind ((if x3 = p0 then if ((p1 >>> (s1.2.2.2 &&& nI 31)) &&& (nI 1)) = (nI 1) then some (nI 1) else some (nI 0) else some (nI 1)) : Option (Int32)) fun (v4 : Int32) => Option.bind ((if v4 = (nI 0) then (gI m 13 8 s1.2.2.2).bind fun (x6 : Int32) => if s1.2.1 < x6 then (gI m 13 8 s1.2.2.2).bind fun (x7 : Int32) => (gI m 12 8 s1.2.2.2).bind fun (x8 : Int32) => some (s1.2.2.2, x7, x8) else (gI m 13 8 s1.2.2.2).bind fun (x9 : Int32) => if x9 = s1.2.1 then (gI m 12 8 s1.2.2.2).bind fun (x10 : Int32) => if s1.2.2.1 ≤ x10 then some (s1.1, s1.2.1, s1.2.2.1) else (gI m 13 8 s1.2.2.2).bind fun (x11 : Int32) => (gI m 12 8 s1.2.2.2).bind fun (x12 : Int32) => some (s1.2.2.2, x11, x12) else some (s1.1, s1.2.1, s1.2.2.1) else some (s1.1, s1.2.1, s1.2.2.1)) : Option (Int32 × Int32 × Int32)) fun (v5 : Int32 × Int32 × Int32) => some (.inl (v5.1, v5.2.1, v5.2.2, s1.2.2.2 + (nI 1)))) ((-1), nI 0, nI 0, nI 0)) fun (v2 : Int32) => some v2
set_option maxRecDepth 20000 in
theorem w_39 {X : Nat × (Nat → Int32)} {d : Nat} {m : dM} {p0 : Int32} {p1 : Int32} {r : Int32} (hD : D39 m p0 p1 = some r) : ax_Ev X (d + 1) 39 [.ref 10, .int p0, .int p1] (stt m) (.inl (some (.int r))) (stt m) := by
  unfold D39 at hD
  show ax_Wp X (d + 0 + 1) 39 (0, [some (.ref 10), some (.int p0), some (.int p1), none, none, none, none, none], []) (stt m) _
  refine ax_Wp.go (f' := (11, [some (.ref 10), some (.int p0), some (.int p1), some (.int (-1)), some (.int (nI 0)), some (.int (nI 0)), some (.int (nI 0)), none], [])) 8 rfl ?_
  refine bnd hD (fun v2 hx hD => ?_)
  refine ax_Wp.jn (F := (116, [some (.ref 10), none, none, some (.int v2), none, none, none, none], [])) (hh := stt m) ?_ (fun kkv2 => ?_)
  · refine ax_Wp.go (f' := (117, [some (.ref 10), none, none, some (.int v2), none, none, none, none], [.int v2])) 1 rfl ?_
    obtain rfl := inj hD
    exact ax_Wp.ret rfl ⟨rfl, rfl⟩
  clear hD
  refine ax_Wp.lpD (fun (s1 : Int32 × Int32 × Int32 × Int32) => ((11, [some (.ref 10), some (.int p0), some (.int p1), some (.int s1.1), some (.int s1.2.1), some (.int s1.2.2.1), some (.int s1.2.2.2), none], []), stt m)) ?_ hx
  clear hx
  intro s1 v hD ks1
  refine ax_Wp.go (f' := (17, [some (.ref 10), some (.int p0), some (.int p1), some (.int s1.1), some (.int s1.2.1), some (.int s1.2.2.1), some (.int s1.2.2.2), none], [.int (rI m 10 4), .int s1.2.2.2])) 3 rfl ?_
  refine ax_Wp.brD hD rfl (fun _ hD => ?_) (fun _ hD => ?_)
  · obtain rfl := inj hD
    obtain rfl := ks1.o
    exact ax_Wp.dead kkv2 ⟨.inl rfl, ⟨.inr ⟨rfl, trivial⟩, ⟨.inr ⟨rfl, trivial⟩, ⟨.inl rfl, ⟨.inr ⟨rfl, trivial⟩, ⟨.inr ⟨rfl, trivial⟩, ⟨.inr ⟨rfl, trivial⟩, ⟨.inl rfl, trivial⟩⟩⟩⟩⟩⟩⟩⟩
  · refine ax_Wp.go (f' := (26, [some (.ref 10), some (.int p0), some (.int p1), some (.int s1.1), some (.int s1.2.1), some (.int s1.2.2.1), some (.int s1.2.2.2), none], [.int s1.2.2.2, .ref 14])) 3 rfl ?_
    refine ax_Wp.rdI hD rfl rfl rfl (fun x3 hD => ?_)
    refine ax_Wp.go (f' := (28, [some (.ref 10), some (.int p0), some (.int p1), some (.int s1.1), some (.int s1.2.1), some (.int s1.2.2.1), some (.int s1.2.2.2), none], [.int p0, .int x3])) 1 rfl ?_
    refine bnd hD (fun v4 hx hD => ?_)
    refine ax_Wp.jn (F := (46, [some (.ref 10), some (.int p0), some (.int p1), some (.int s1.1), some (.int s1.2.1), some (.int s1.2.2.1), some (.int s1.2.2.2), none], [.int v4])) (hh := stt m) ?_ (fun kkv4 => ?_)
    · refine ax_Wp.go (f' := (50, [some (.ref 10), some (.int p0), some (.int p1), some (.int s1.1), some (.int s1.2.1), some (.int s1.2.2.1), some (.int s1.2.2.2), some (.int v4)], [.int v4])) 2 rfl ?_
      refine bnd hD (fun v5 hx hD => ?_)
      refine ax_Wp.jn (F := (110, [some (.ref 10), some (.int p0), some (.int p1), some (.int v5.1), some (.int v5.2.1), some (.int v5.2.2), some (.int s1.2.2.2), none], [])) (hh := stt m) ?_ (fun kkv5 => ?_)
      · refine ax_Wp.go (f' := (11, [some (.ref 10), some (.int p0), some (.int p1), some (.int v5.1), some (.int v5.2.1), some (.int v5.2.2), some (.int (s1.2.2.2 + (nI 1))), none], [])) 2 rfl ?_
        obtain rfl := inj hD
        exact ks1.i
      clear hD
      have hD := hx
      clear hx
      refine ax_Wp.brD hD rfl (fun _ hD => ?_) (fun _ hD => ?_)
      · refine ax_Wp.go (f' := (59, [some (.ref 10), some (.int p0), some (.int p1), some (.int s1.1), some (.int s1.2.1), some (.int s1.2.2.1), some (.int s1.2.2.2), some (.int v4)], [.int s1.2.2.2, .ref 13])) 3 rfl ?_
        refine ax_Wp.rdI hD rfl rfl rfl (fun x6 hD => ?_)
        refine ax_Wp.go (f' := (62, [some (.ref 10), some (.int p0), some (.int p1), some (.int s1.1), some (.int s1.2.1), some (.int s1.2.2.1), some (.int s1.2.2.2), some (.int v4)], [.int s1.2.1, .int x6])) 1 rfl ?_
        refine ax_Wp.brD hD rfl (fun _ hD => ?_) (fun _ hD => ?_)
        · refine ax_Wp.go (f' := (98, [some (.ref 10), some (.int p0), some (.int p1), some (.int s1.2.2.2), some (.int s1.2.1), some (.int s1.2.2.1), some (.int s1.2.2.2), some (.int v4)], [.int s1.2.2.2, .ref 13])) 5 rfl ?_
          refine ax_Wp.rdI hD rfl rfl rfl (fun x7 hD => ?_)
          refine ax_Wp.go (f' := (107, [some (.ref 10), some (.int p0), some (.int p1), some (.int s1.2.2.2), some (.int x7), some (.int s1.2.2.1), some (.int s1.2.2.2), some (.int v4)], [.int s1.2.2.2, .ref 12])) 4 rfl ?_
          refine ax_Wp.rdI hD rfl rfl rfl (fun x8 hD => ?_)
          refine ax_Wp.go (f' := (110, [some (.ref 10), some (.int p0), some (.int p1), some (.int s1.2.2.2), some (.int x7), some (.int x8), some (.int s1.2.2.2), some (.int v4)], [])) 1 rfl ?_
          obtain rfl := inj hD
          exact ax_Wp.dead kkv5 ⟨.inl rfl, ⟨.inl rfl, ⟨.inl rfl, ⟨.inl rfl, ⟨.inl rfl, ⟨.inl rfl, ⟨.inl rfl, ⟨.inr ⟨rfl, trivial⟩, trivial⟩⟩⟩⟩⟩⟩⟩⟩
        · refine ax_Wp.go (f' := (71, [some (.ref 10), some (.int p0), some (.int p1), some (.int s1.1), some (.int s1.2.1), some (.int s1.2.2.1), some (.int s1.2.2.2), some (.int v4)], [.int s1.2.2.2, .ref 13])) 3 rfl ?_
          refine ax_Wp.rdI hD rfl rfl rfl (fun x9 hD => ?_)
          refine ax_Wp.go (f' := (74, [some (.ref 10), some (.int p0), some (.int p1), some (.int s1.1), some (.int s1.2.1), some (.int s1.2.2.1), some (.int s1.2.2.2), some (.int v4)], [.int s1.2.1, .int x9])) 1 rfl ?_
          refine ax_Wp.brD hD rfl (fun _ hD => ?_) (fun _ hD => ?_)
          · refine ax_Wp.go (f' := (83, [some (.ref 10), some (.int p0), some (.int p1), some (.int s1.1), some (.int s1.2.1), some (.int s1.2.2.1), some (.int s1.2.2.2), some (.int v4)], [.int s1.2.2.2, .ref 12])) 3 rfl ?_
            refine ax_Wp.rdI hD rfl rfl rfl (fun x10 hD => ?_)
            refine ax_Wp.go (f' := (86, [some (.ref 10), some (.int p0), some (.int p1), some (.int s1.1), some (.int s1.2.1), some (.int s1.2.2.1), some (.int s1.2.2.2), some (.int v4)], [.int s1.2.2.1, .int x10])) 1 rfl ?_
            refine ax_Wp.brD hD rfl (fun _ hD => ?_) (fun _ hD => ?_)
            · obtain rfl := inj hD
              exact ax_Wp.dead kkv5 ⟨.inl rfl, ⟨.inl rfl, ⟨.inl rfl, ⟨.inl rfl, ⟨.inl rfl, ⟨.inl rfl, ⟨.inl rfl, ⟨.inr ⟨rfl, trivial⟩, trivial⟩⟩⟩⟩⟩⟩⟩⟩
            · refine ax_Wp.go (f' := (98, [some (.ref 10), some (.int p0), some (.int p1), some (.int s1.2.2.2), some (.int s1.2.1), some (.int s1.2.2.1), some (.int s1.2.2.2), some (.int v4)], [.int s1.2.2.2, .ref 13])) 5 rfl ?_
              refine ax_Wp.rdI hD rfl rfl rfl (fun x11 hD => ?_)
              refine ax_Wp.go (f' := (107, [some (.ref 10), some (.int p0), some (.int p1), some (.int s1.2.2.2), some (.int x11), some (.int s1.2.2.1), some (.int s1.2.2.2), some (.int v4)], [.int s1.2.2.2, .ref 12])) 4 rfl ?_
              refine ax_Wp.rdI hD rfl rfl rfl (fun x12 hD => ?_)
              refine ax_Wp.go (f' := (110, [some (.ref 10), some (.int p0), some (.int p1), some (.int s1.2.2.2), some (.int x11), some (.int x12), some (.int s1.2.2.2), some (.int v4)], [])) 1 rfl ?_
              obtain rfl := inj hD
              exact ax_Wp.dead kkv5 ⟨.inl rfl, ⟨.inl rfl, ⟨.inl rfl, ⟨.inl rfl, ⟨.inl rfl, ⟨.inl rfl, ⟨.inl rfl, ⟨.inr ⟨rfl, trivial⟩, trivial⟩⟩⟩⟩⟩⟩⟩⟩
          · obtain rfl := inj hD
            exact ax_Wp.dead kkv5 ⟨.inl rfl, ⟨.inl rfl, ⟨.inl rfl, ⟨.inl rfl, ⟨.inl rfl, ⟨.inl rfl, ⟨.inl rfl, ⟨.inr ⟨rfl, trivial⟩, trivial⟩⟩⟩⟩⟩⟩⟩⟩
      · obtain rfl := inj hD
        exact ax_Wp.dead kkv5 ⟨.inl rfl, ⟨.inl rfl, ⟨.inl rfl, ⟨.inl rfl, ⟨.inl rfl, ⟨.inl rfl, ⟨.inl rfl, ⟨.inr ⟨rfl, trivial⟩, trivial⟩⟩⟩⟩⟩⟩⟩⟩
    clear hD
    have hD := hx
    clear hx
    refine ax_Wp.brD hD rfl (fun _ hD => ?_) (fun _ hD => ?_)
    · refine ax_Wp.go (f' := (38, [some (.ref 10), some (.int p0), some (.int p1), some (.int s1.1), some (.int s1.2.1), some (.int s1.2.2.1), some (.int s1.2.2.2), none], [.int (nI 1), .int ((p1 >>> (s1.2.2.2 &&& nI 31)) &&& (nI 1))])) 6 rfl ?_
      refine ax_Wp.brD hD rfl (fun _ hD => ?_) (fun _ hD => ?_)
      · refine ax_Wp.go (f' := (46, [some (.ref 10), some (.int p0), some (.int p1), some (.int s1.1), some (.int s1.2.1), some (.int s1.2.2.1), some (.int s1.2.2.2), none], [.int (nI 1)])) 2 rfl ?_
        obtain rfl := inj hD
        exact kkv4
      · refine ax_Wp.go (f' := (46, [some (.ref 10), some (.int p0), some (.int p1), some (.int s1.1), some (.int s1.2.1), some (.int s1.2.2.1), some (.int s1.2.2.2), none], [.int (nI 0)])) 1 rfl ?_
        obtain rfl := inj hD
        exact kkv4
    · refine ax_Wp.go (f' := (46, [some (.ref 10), some (.int p0), some (.int p1), some (.int s1.1), some (.int s1.2.1), some (.int s1.2.2.1), some (.int s1.2.2.2), none], [.int (nI 1)])) 2 rfl ?_
      obtain rfl := inj hD
      exact kkv4
def D29 (m : dM) (p0 : Int32) : Option (Int32) := Option.bind ((if p0 < (nI 0) then some (nI 0) else if (rI m 10 4) ≤ p0 then some (nI 0) else if (nI 8) ≤ p0 then some (nI 0) else some (nI 1)) : Option (Int32)) fun (v1 : Int32) => (gB v1).bind fun (b2 : Int32) => some b2
set_option maxRecDepth 20000 in
theorem w_29 {X : Nat × (Nat → Int32)} {d : Nat} {m : dM} {p0 : Int32} {r : Int32} (hD : D29 m p0 = some r) : ax_Ev X (d + 1) 29 [.ref 10, .int p0] (stt m) (.inl (some (.int r))) (stt m) := by
  unfold D29 at hD
  show ax_Wp X (d + 0 + 1) 29 (0, [some (.ref 10), some (.int p0)], []) (stt m) _
  refine ax_Wp.go (f' := (1, [some (.ref 10), some (.int p0)], [.int p0])) 1 rfl ?_
  refine bnd hD (fun v1 hx hD => ?_)
  refine ax_Wp.jn (F := (23, [some (.ref 10), none], [.int v1])) (hh := stt m) ?_ (fun kkv1 => ?_)
  · refine ax_Wp.retB hD rfl (fun b2 hD => ?_)
    obtain rfl := inj hD
    exact ⟨rfl, rfl⟩
  clear hD
  have hD := hx
  clear hx
  refine ax_Wp.brD hD rfl (fun _ hD => ?_) (fun _ hD => ?_)
  · refine ax_Wp.go (f' := (23, [some (.ref 10), some (.int p0)], [.int (nI 0)])) 1 rfl ?_
    obtain rfl := inj hD
    exact ax_Wp.dead kkv1 ⟨.inl rfl, ⟨.inr ⟨rfl, trivial⟩, trivial⟩⟩
  · refine ax_Wp.go (f' := (9, [some (.ref 10), some (.int p0)], [.int (rI m 10 4), .int p0])) 3 rfl ?_
    refine ax_Wp.brD hD rfl (fun _ hD => ?_) (fun _ hD => ?_)
    · refine ax_Wp.go (f' := (23, [some (.ref 10), some (.int p0)], [.int (nI 0)])) 1 rfl ?_
      obtain rfl := inj hD
      exact ax_Wp.dead kkv1 ⟨.inl rfl, ⟨.inr ⟨rfl, trivial⟩, trivial⟩⟩
    · refine ax_Wp.go (f' := (15, [some (.ref 10), some (.int p0)], [.int (nI 8), .int p0])) 2 rfl ?_
      refine ax_Wp.brD hD rfl (fun _ hD => ?_) (fun _ hD => ?_)
      · refine ax_Wp.go (f' := (23, [some (.ref 10), some (.int p0)], [.int (nI 0)])) 1 rfl ?_
        obtain rfl := inj hD
        exact ax_Wp.dead kkv1 ⟨.inl rfl, ⟨.inr ⟨rfl, trivial⟩, trivial⟩⟩
      · refine ax_Wp.go (f' := (23, [some (.ref 10), some (.int p0)], [.int (nI 1)])) 2 rfl ?_
        obtain rfl := inj hD
        exact ax_Wp.dead kkv1 ⟨.inl rfl, ⟨.inr ⟨rfl, trivial⟩, trivial⟩⟩
def D38 (m : dM) (p0 : Int32) (p1 : Int32) (p2 : Int32) : Option (dM) := (D34 m p0).bind fun (x1 : Int32) => lp (β := dM) 3000 (fun (s2 : Int32 × Int32 × Int32 × dM) => if (rI s2.2.2.2 10 4) ≤ s2.2.2.1 then some (.inr s2.2.2.2) else (D39 s2.2.2.2 p1 s2.2.1).bind fun (x3 : Int32) => (D29 s2.2.2.2 x3).bind fun (x4 : Int32) => if x4 = (nI 0) then some (.inr s2.2.2.2) else (gI s2.2.2.2 12 8 x3).bind fun (x5 : Int32) => Option.bind ((if p2 < (s2.1 + x5) then some (s2.1, s2.2.2.2) else (sI s2.2.2.2 14 8 x3 ((nI 10) + p0)).bind fun (m7 : dM) => (gI m7 12 8 x3).bind fun (x8 : Int32) => some (s2.1 + x8, m7)) : Option (Int32 × dM)) fun (v6 : Int32 × dM) => some (.inl (v6.1, s2.2.1 ||| ((nI 1) <<< (x3 &&& nI 31)), s2.2.2.1 + (nI 1), v6.2))) (x1, nI 0, nI 0, m)
set_option maxRecDepth 20000 in
theorem w_38 {X : Nat × (Nat → Int32)} {d : Nat} {m : dM} {p0 : Int32} {p1 : Int32} {p2 : Int32} {r : dM} (hD : D38 m p0 p1 p2 = some r) : ax_Ev X (d + 2) 38 [.ref 10, .int p0, .int p1, .int p2] (stt m) (.inl none) (stt r) := by
  unfold D38 at hD
  show ax_Wp X (d + 1 + 1) 38 (0, [some (.ref 10), some (.int p0), some (.int p1), some (.int p2), none, none, none, none], []) (stt m) _
  refine ax_Wp.go (f' := (2, [some (.ref 10), some (.int p0), some (.int p1), some (.int p2), none, none, none, none], [.int p0, .ref 10])) 2 rfl ?_
  refine bnd hD (fun x1 hx hD => ?_)
  refine ax_Wp.callE (f' := (5, [some (.ref 10), some (.int p0), some (.int p1), some (.int p2), none, none, none, none], [])) rfl rfl (w_34 (d := d + 0) hx) rfl ?_
  refine ax_Wp.go (f' := (13, [some (.ref 10), some (.int p0), some (.int p1), some (.int p2), some (.int x1), some (.int (nI 0)), some (.int (nI 0)), none], [])) 5 rfl ?_
  refine ax_Wp.lpD (fun (s2 : Int32 × Int32 × Int32 × dM) => ((13, [some (.ref 10), some (.int p0), some (.int p1), some (.int p2), some (.int s2.1), some (.int s2.2.1), some (.int s2.2.2.1), none], []), stt s2.2.2.2)) ?_ hD
  clear hD
  intro s2 v hD ks2
  refine ax_Wp.go (f' := (19, [some (.ref 10), some (.int p0), some (.int p1), some (.int p2), some (.int s2.1), some (.int s2.2.1), some (.int s2.2.2.1), none], [.int (rI s2.2.2.2 10 4), .int s2.2.2.1])) 3 rfl ?_
  refine ax_Wp.brD hD rfl (fun _ hD => ?_) (fun _ hD => ?_)
  · obtain rfl := inj hD
    obtain rfl := ks2.o
    exact ax_Wp.ret rfl ⟨rfl, rfl⟩
  · refine ax_Wp.go (f' := (26, [some (.ref 10), some (.int p0), some (.int p1), some (.int p2), some (.int s2.1), some (.int s2.2.1), some (.int s2.2.2.1), none], [.int s2.2.1, .int p1, .ref 10])) 3 rfl ?_
    refine bnd hD (fun x3 hx hD => ?_)
    refine ax_Wp.callE (f' := (29, [some (.ref 10), some (.int p0), some (.int p1), some (.int p2), some (.int s2.1), some (.int s2.2.1), some (.int s2.2.2.1), none], [])) rfl rfl (w_39 (d := d + 0) hx) rfl ?_
    refine ax_Wp.go (f' := (34, [some (.ref 10), some (.int p0), some (.int p1), some (.int p2), some (.int s2.1), some (.int s2.2.1), some (.int s2.2.2.1), some (.int x3)], [.int x3, .ref 10])) 3 rfl ?_
    refine bnd hD (fun x4 hx hD => ?_)
    refine ax_Wp.callE (f' := (37, [some (.ref 10), some (.int p0), some (.int p1), some (.int p2), some (.int s2.1), some (.int s2.2.1), some (.int s2.2.2.1), some (.int x3)], [])) rfl rfl (w_29 (d := d + 0) hx) rfl ?_
    refine ax_Wp.brD hD rfl (fun _ hD => ?_) (fun _ hD => ?_)
    · obtain rfl := inj hD
      obtain rfl := ks2.o
      exact ax_Wp.ret rfl ⟨rfl, rfl⟩
    · refine ax_Wp.go (f' := (58, [some (.ref 10), some (.int p0), some (.int p1), some (.int p2), some (.int s2.1), some (.int (s2.2.1 ||| ((nI 1) <<< (x3 &&& nI 31)))), some (.int s2.2.2.1), some (.int x3)], [.int x3, .ref 12, .int s2.1])) 10 rfl ?_
      refine ax_Wp.rdI hD rfl rfl rfl (fun x5 hD => ?_)
      refine ax_Wp.go (f' := (61, [some (.ref 10), some (.int p0), some (.int p1), some (.int p2), some (.int s2.1), some (.int (s2.2.1 ||| ((nI 1) <<< (x3 &&& nI 31)))), some (.int s2.2.2.1), some (.int x3)], [.int p2, .int (s2.1 + x5)])) 2 rfl ?_
      refine bnd hD (fun v6 hx hD => ?_)
      refine ax_Wp.jn (F := (87, [some (.ref 10), some (.int p0), some (.int p1), some (.int p2), some (.int v6.1), some (.int (s2.2.1 ||| ((nI 1) <<< (x3 &&& nI 31)))), some (.int s2.2.2.1), none], [])) (hh := stt v6.2) ?_ (fun kkv6 => ?_)
      · refine ax_Wp.go (f' := (13, [some (.ref 10), some (.int p0), some (.int p1), some (.int p2), some (.int v6.1), some (.int (s2.2.1 ||| ((nI 1) <<< (x3 &&& nI 31)))), some (.int (s2.2.2.1 + (nI 1))), none], [])) 2 rfl ?_
        obtain rfl := inj hD
        exact ks2.i
      clear hD
      have hD := hx
      clear hx
      refine ax_Wp.brD hD rfl (fun _ hD => ?_) (fun _ hD => ?_)
      · obtain rfl := inj hD
        exact ax_Wp.dead kkv6 ⟨.inl rfl, ⟨.inl rfl, ⟨.inl rfl, ⟨.inl rfl, ⟨.inl rfl, ⟨.inl rfl, ⟨.inl rfl, ⟨.inr ⟨rfl, trivial⟩, trivial⟩⟩⟩⟩⟩⟩⟩⟩
      · refine ax_Wp.go (f' := (74, [some (.ref 10), some (.int p0), some (.int p1), some (.int p2), some (.int s2.1), some (.int (s2.2.1 ||| ((nI 1) <<< (x3 &&& nI 31)))), some (.int s2.2.2.1), some (.int x3)], [.int ((nI 10) + p0), .int x3, .ref 14])) 6 rfl ?_
        refine ax_Wp.wrI hD rfl rfl (fun _ => rfl) (fun m7 hD => ?_)
        refine ax_Wp.go (f' := (83, [some (.ref 10), some (.int p0), some (.int p1), some (.int p2), some (.int s2.1), some (.int (s2.2.1 ||| ((nI 1) <<< (x3 &&& nI 31)))), some (.int s2.2.2.1), some (.int x3)], [.int x3, .ref 12, .int s2.1])) 4 rfl ?_
        refine ax_Wp.rdI hD rfl rfl rfl (fun x8 hD => ?_)
        refine ax_Wp.go (f' := (87, [some (.ref 10), some (.int p0), some (.int p1), some (.int p2), some (.int (s2.1 + x8)), some (.int (s2.2.1 ||| ((nI 1) <<< (x3 &&& nI 31)))), some (.int s2.2.2.1), some (.int x3)], [])) 2 rfl ?_
        obtain rfl := inj hD
        exact ax_Wp.dead kkv6 ⟨.inl rfl, ⟨.inl rfl, ⟨.inl rfl, ⟨.inl rfl, ⟨.inl rfl, ⟨.inl rfl, ⟨.inl rfl, ⟨.inr ⟨rfl, trivial⟩, trivial⟩⟩⟩⟩⟩⟩⟩⟩
def D52 (m : dM) : Option (Int32 × dM) := (D7 m).bind fun (r1 : dM) => Option.bind (lp (β := Int32 × dM) 3000 (fun (s2 : Int32 × Int32 × dM) => if (nI 4) ≤ s2.2.1 then some (.inr (s2.1, s2.2.2)) else (gI s2.2.2 40 4 s2.2.1).bind fun (x4 : Int32) => (sI s2.2.2 9 4 s2.2.1 x4).bind fun (m5 : dM) => (sI m5 7 4 s2.2.1 (-1)).bind fun (m6 : dM) => Option.bind ((if x4 = (nI 0) then (gI m6 38 4 s2.2.1).bind fun (x8 : Int32) => (sI m6 6 4 s2.2.1 x8).bind fun (m9 : dM) => (gI m9 8 4 s2.2.1).bind fun (x10 : Int32) => (sI m9 8 4 s2.2.1 (x10 + (nI 1))).bind fun (m11 : dM) => some (s2.1 + (nI 1), m11) else if x4 = (nI 1) then some (s2.1, m6) else (fI m6 1 8 ((rI m6 1 8) + (nI 1))).bind fun (m12 : dM) => some (s2.1, m12)) : Option (Int32 × dM)) fun (v7 : Int32 × dM) => some (.inl (v7.1, s2.2.1 + (nI 1), v7.2))) (nI 0, nI 0, r1)) fun (v3 : Int32 × dM) => Option.bind (lp (β := dM) 3000 (fun (s13 : Int32 × dM) => if (nI 4) ≤ s13.1 then some (.inr s13.2) else (D130 s13.1).bind fun (x15 : Int32) => (gI s13.2 17 2 x15).bind fun (x16 : Int32) => (gI s13.2 6 4 s13.1).bind fun (x17 : Int32) => (D37 s13.2 s13.1 x17).bind fun (r18 : Int32 × dM) => (sI r18.2 17 2 x15 (x16 + r18.1)).bind fun (m19 : dM) => (gI m19 6 4 s13.1).bind fun (x20 : Int32) => (D45 m19 s13.1).bind fun (x21 : Int32) => (D38 m19 s13.1 x20 x21).bind fun (r22 : dM) => some (.inl (s13.1 + (nI 1), r22))) (nI 0, v3.2)) fun (v14 : dM) => (fI v14 1 7 ((rI v14 1 7) + (nI 1))).bind fun (m23 : dM) => (D42 m23).bind fun (x24 : Int64) => (D23 m23 x24).bind fun (r25 : dM) => some (v3.1, r25)
set_option maxRecDepth 20000 in
theorem w_52 {X : Nat × (Nat → Int32)} {d : Nat} {m : dM} {r : Int32 × dM} (hD : D52 m = some r) : ax_Ev X (d + 4) 52 [.ref 1, .ref 36] (stt m) (.inl (some (.int r.1))) (stt r.2) := by
  unfold D52 at hD
  show ax_Wp X (d + 3 + 1) 52 (0, [some (.ref 1), some (.ref 36), none, none, none], []) (stt m) _
  refine ax_Wp.go (f' := (2, [some (.ref 1), some (.ref 36), none, none, none], [.ref 1, .ref 36])) 2 rfl ?_
  refine bnd hD (fun r1 hx hD => ?_)
  refine ax_Wp.callE (f' := (5, [some (.ref 1), some (.ref 36), none, none, none], [])) rfl rfl (w_7 (d := d + 0) hx) rfl ?_
  refine ax_Wp.go (f' := (9, [some (.ref 1), some (.ref 36), some (.int (nI 0)), some (.int (nI 0)), none], [])) 4 rfl ?_
  refine bnd hD (fun v3 hx hD => ?_)
  refine ax_Wp.jn (F := (104, [some (.ref 1), some (.ref 36), some (.int v3.1), none, none], [])) (hh := stt v3.2) ?_ (fun kkv3 => ?_)
  · refine ax_Wp.go (f' := (106, [some (.ref 1), some (.ref 36), some (.int v3.1), some (.int (nI 0)), none], [])) 2 rfl ?_
    refine bnd hD (fun v14 hx hD => ?_)
    refine ax_Wp.jn (F := (168, [some (.ref 1), some (.ref 36), some (.int v3.1), none, none], [])) (hh := stt v14) ?_ (fun kkv14 => ?_)
    · refine ax_Wp.go (f' := (175, [some (.ref 1), some (.ref 36), some (.int v3.1), none, none], [.int ((rI v14 1 7) + (nI 1)), .ref 1])) 5 rfl ?_
      refine ax_Wp.ptI hD rfl rfl rfl (fun m23 hD => ?_)
      refine ax_Wp.go (f' := (183, [some (.ref 1), some (.ref 36), some (.int v3.1), none, none], [.ref 1, .ref 15])) 3 rfl ?_
      refine bnd hD (fun x24 hx hD => ?_)
      refine ax_Wp.callE (f' := (186, [some (.ref 1), some (.ref 36), some (.int v3.1), none, none], [.ref 15])) rfl rfl (w_42 (d := d + 2) hx) rfl ?_
      refine bnd hD (fun r25 hx hD => ?_)
      refine ax_Wp.callE (f' := (189, [some (.ref 1), some (.ref 36), some (.int v3.1), none, none], [])) rfl rfl (w_23 (d := d + 2) hx) rfl ?_
      refine ax_Wp.go (f' := (190, [some (.ref 1), some (.ref 36), some (.int v3.1), none, none], [.int v3.1])) 1 rfl ?_
      obtain rfl := inj hD
      exact ax_Wp.ret rfl ⟨rfl, rfl⟩
    clear hD
    refine ax_Wp.lpD (fun (s13 : Int32 × dM) => ((106, [some (.ref 1), some (.ref 36), some (.int v3.1), some (.int s13.1), none], []), stt s13.2)) ?_ hx
    clear hx
    intro s13 v hD ks13
    refine ax_Wp.go (f' := (108, [some (.ref 1), some (.ref 36), some (.int v3.1), some (.int s13.1), none], [.int (nI 4), .int s13.1])) 2 rfl ?_
    refine ax_Wp.brD hD rfl (fun _ hD => ?_) (fun _ hD => ?_)
    · obtain rfl := inj hD
      obtain rfl := ks13.o
      exact ax_Wp.dead kkv14 ⟨.inl rfl, ⟨.inl rfl, ⟨.inl rfl, ⟨.inr ⟨rfl, trivial⟩, ⟨.inl rfl, trivial⟩⟩⟩⟩⟩
    · refine ax_Wp.go (f' := (116, [some (.ref 1), some (.ref 36), some (.int v3.1), some (.int s13.1), none], [.int s13.1, .ref 17])) 3 rfl ?_
      refine bnd hD (fun x15 hx hD => ?_)
      refine ax_Wp.callE (f' := (119, [some (.ref 1), some (.ref 36), some (.int v3.1), some (.int s13.1), none], [.ref 17])) rfl rfl (w_130 (d := d + 2) hx) rfl ?_
      refine ax_Wp.go (f' := (120, [some (.ref 1), some (.ref 36), some (.int v3.1), some (.int s13.1), none], [.int x15, .ref 17, .int x15, .ref 17])) 1 rfl ?_
      refine ax_Wp.rdI hD rfl rfl rfl (fun x16 hD => ?_)
      refine ax_Wp.go (f' := (134, [some (.ref 1), some (.ref 36), some (.int v3.1), some (.int s13.1), none], [.int s13.1, .ref 6, .int s13.1, .ref 10, .int x16, .int x15, .ref 17])) 7 rfl ?_
      refine ax_Wp.rdI hD rfl rfl rfl (fun x17 hD => ?_)
      refine bnd hD (fun r18 hx hD => ?_)
      refine ax_Wp.callE (f' := (138, [some (.ref 1), some (.ref 36), some (.int v3.1), some (.int s13.1), none], [.int x16, .int x15, .ref 17])) rfl rfl (w_37 (d := d + 2) hx) rfl ?_
      refine ax_Wp.go (f' := (139, [some (.ref 1), some (.ref 36), some (.int v3.1), some (.int s13.1), none], [.int (x16 + r18.1), .int x15, .ref 17])) 1 rfl ?_
      refine ax_Wp.wrI hD rfl rfl (fun _ => rfl) (fun m19 hD => ?_)
      refine ax_Wp.go (f' := (153, [some (.ref 1), some (.ref 36), some (.int v3.1), some (.int s13.1), none], [.int s13.1, .ref 6, .int s13.1, .ref 10])) 7 rfl ?_
      refine ax_Wp.rdI hD rfl rfl rfl (fun x20 hD => ?_)
      refine ax_Wp.go (f' := (156, [some (.ref 1), some (.ref 36), some (.int v3.1), some (.int s13.1), none], [.int s13.1, .ref 1, .int x20, .int s13.1, .ref 10])) 2 rfl ?_
      refine bnd hD (fun x21 hx hD => ?_)
      refine ax_Wp.callE (f' := (159, [some (.ref 1), some (.ref 36), some (.int v3.1), some (.int s13.1), none], [.int x20, .int s13.1, .ref 10])) rfl rfl (w_45 (d := d + 1) hx) rfl ?_
      refine bnd hD (fun r22 hx hD => ?_)
      refine ax_Wp.callE (f' := (162, [some (.ref 1), some (.ref 36), some (.int v3.1), some (.int s13.1), none], [])) rfl rfl (w_38 (d := d + 1) hx) rfl ?_
      refine ax_Wp.go (f' := (106, [some (.ref 1), some (.ref 36), some (.int v3.1), some (.int (s13.1 + (nI 1))), none], [])) 2 rfl ?_
      obtain rfl := inj hD
      exact ks13.i
  clear hD
  refine ax_Wp.lpD (fun (s2 : Int32 × Int32 × dM) => ((9, [some (.ref 1), some (.ref 36), some (.int s2.1), some (.int s2.2.1), none], []), stt s2.2.2)) ?_ hx
  clear hx
  intro s2 v hD ks2
  refine ax_Wp.go (f' := (11, [some (.ref 1), some (.ref 36), some (.int s2.1), some (.int s2.2.1), none], [.int (nI 4), .int s2.2.1])) 2 rfl ?_
  refine ax_Wp.brD hD rfl (fun _ hD => ?_) (fun _ hD => ?_)
  · obtain rfl := inj hD
    obtain rfl := ks2.o
    exact ax_Wp.dead kkv3 ⟨.inl rfl, ⟨.inl rfl, ⟨.inl rfl, ⟨.inr ⟨rfl, trivial⟩, ⟨.inl rfl, trivial⟩⟩⟩⟩⟩
  · refine ax_Wp.go (f' := (19, [some (.ref 1), some (.ref 36), some (.int s2.1), some (.int s2.2.1), none], [.int s2.2.1, .ref 40])) 3 rfl ?_
    refine ax_Wp.rdI hD rfl rfl rfl (fun x4 hD => ?_)
    refine ax_Wp.go (f' := (32, [some (.ref 1), some (.ref 36), some (.int s2.1), some (.int s2.2.1), some (.int x4)], [.int x4, .int s2.2.1, .ref 9])) 6 rfl ?_
    refine ax_Wp.wrI hD rfl rfl (fun _ => rfl) (fun m5 hD => ?_)
    refine ax_Wp.go (f' := (42, [some (.ref 1), some (.ref 36), some (.int s2.1), some (.int s2.2.1), some (.int x4)], [.int (-1), .int s2.2.1, .ref 7])) 5 rfl ?_
    refine ax_Wp.wrI hD rfl rfl (fun _ => rfl) (fun m6 hD => ?_)
    refine ax_Wp.go (f' := (45, [some (.ref 1), some (.ref 36), some (.int s2.1), some (.int s2.2.1), some (.int x4)], [.int x4])) 1 rfl ?_
    refine bnd hD (fun v7 hx hD => ?_)
    refine ax_Wp.jn (F := (98, [some (.ref 1), some (.ref 36), some (.int v7.1), some (.int s2.2.1), none], [])) (hh := stt v7.2) ?_ (fun kkv7 => ?_)
    · refine ax_Wp.go (f' := (9, [some (.ref 1), some (.ref 36), some (.int v7.1), some (.int (s2.2.1 + (nI 1))), none], [])) 2 rfl ?_
      obtain rfl := inj hD
      exact ks2.i
    clear hD
    have hD := hx
    clear hx
    refine ax_Wp.brD hD rfl (fun _ hD => ?_) (fun _ hD => ?_)
    · refine ax_Wp.go (f' := (61, [some (.ref 1), some (.ref 36), some (.int s2.1), some (.int s2.2.1), some (.int x4)], [.int s2.2.1, .ref 38, .int s2.2.1, .ref 6])) 7 rfl ?_
      refine ax_Wp.rdI hD rfl rfl rfl (fun x8 hD => ?_)
      refine ax_Wp.wrI hD rfl rfl (fun _ => rfl) (fun m9 hD => ?_)
      refine ax_Wp.go (f' := (72, [some (.ref 1), some (.ref 36), some (.int s2.1), some (.int s2.2.1), some (.int x4)], [.int s2.2.1, .ref 8, .int s2.2.1, .ref 8])) 5 rfl ?_
      refine ax_Wp.rdI hD rfl rfl rfl (fun x10 hD => ?_)
      refine ax_Wp.go (f' := (75, [some (.ref 1), some (.ref 36), some (.int s2.1), some (.int s2.2.1), some (.int x4)], [.int (x10 + (nI 1)), .int s2.2.1, .ref 8])) 2 rfl ?_
      refine ax_Wp.wrI hD rfl rfl (fun _ => rfl) (fun m11 hD => ?_)
      refine ax_Wp.go (f' := (98, [some (.ref 1), some (.ref 36), some (.int (s2.1 + (nI 1))), some (.int s2.2.1), some (.int x4)], [])) 2 rfl ?_
      obtain rfl := inj hD
      exact ax_Wp.dead kkv7 ⟨.inl rfl, ⟨.inl rfl, ⟨.inl rfl, ⟨.inl rfl, ⟨.inr ⟨rfl, trivial⟩, trivial⟩⟩⟩⟩⟩
    · refine ax_Wp.go (f' := (85, [some (.ref 1), some (.ref 36), some (.int s2.1), some (.int s2.2.1), some (.int x4)], [.int (nI 1), .int x4])) 2 rfl ?_
      refine ax_Wp.brD hD rfl (fun _ hD => ?_) (fun _ hD => ?_)
      · obtain rfl := inj hD
        exact ax_Wp.dead kkv7 ⟨.inl rfl, ⟨.inl rfl, ⟨.inl rfl, ⟨.inl rfl, ⟨.inr ⟨rfl, trivial⟩, trivial⟩⟩⟩⟩⟩
      · refine ax_Wp.go (f' := (95, [some (.ref 1), some (.ref 36), some (.int s2.1), some (.int s2.2.1), some (.int x4)], [.int ((rI m6 1 8) + (nI 1)), .ref 1])) 5 rfl ?_
        refine ax_Wp.ptI hD rfl rfl rfl (fun m12 hD => ?_)
        obtain rfl := inj hD
        exact ax_Wp.dead kkv7 ⟨.inl rfl, ⟨.inl rfl, ⟨.inl rfl, ⟨.inl rfl, ⟨.inr ⟨rfl, trivial⟩, trivial⟩⟩⟩⟩⟩
def D79 (m : dM) : Option ((Int32 ⊕ Nat) × dM) := (D44 m).bind fun (x1 : Int32) => if x1 = (nI 0) then (D131 m).bind fun (r2 : dM) => (D52 r2).bind fun (r3 : Int32 × dM) => some (.inl r3.1, r3.2) else some (.inr 2, (bump m))
set_option maxRecDepth 20000 in
theorem w_79 {X : Nat × (Nat → Int32)} {d : Nat} {m : dM} {r : (Int32 ⊕ Nat) × dM} (hD : D79 m = some r) : ax_Ev X (d + 6) 79 [.ref 0] (stt m) (oT (fun x => some (.int x)) r.1) (stt r.2) := by
  unfold D79 at hD
  show ax_Wp X (d + 5 + 1) 79 (0, [some (.ref 0)], []) (stt m) _
  refine ax_Wp.go (f' := (4, [some (.ref 0)], [.ref 1])) 2 rfl ?_
  refine bnd hD (fun x1 hx hD => ?_)
  refine ax_Wp.callE (f' := (7, [some (.ref 0)], [])) rfl rfl (w_44 (d := d + 3) hx) rfl ?_
  refine ax_Wp.brD hD rfl (fun _ hD => ?_) (fun _ hD => ?_)
  · refine ax_Wp.go (f' := (21, [some (.ref 0)], [.ref 0])) 1 rfl ?_
    refine bnd hD (fun r2 hx hD => ?_)
    refine ax_Wp.callE (f' := (24, [some (.ref 0)], [])) rfl rfl (w_131 (d := d + 2) hx) rfl ?_
    refine ax_Wp.go (f' := (32, [some (.ref 0)], [.ref 36, .ref 1])) 4 rfl ?_
    refine bnd hD (fun r3 hx hD => ?_)
    refine ax_Wp.callE (f' := (35, [some (.ref 0)], [])) rfl rfl (w_52 (d := d + 1) hx) rfl ?_
    obtain rfl := inj hD
    exact ax_Wp.ret rfl ⟨rfl, rfl⟩
  · obtain rfl := inj hD
    exact ax_Wp.thr rfl (ax_six _ rfl) ⟨rfl, rfl⟩
def D254 (m : dM) : Option (Int32 × dM) := cG (D79 m) (fun (x1 : Int32) (m4 : dM) => (sL m4 138 1 (nI 0) x1.toInt64).bind fun (m5 : dM) => some (nI 0, m5)) (fun (j2 : Nat) (m3 : dM) => if j2 = 2 then some (nI 1, m3) else none)
set_option maxRecDepth 20000 in
theorem w_254 {X : Nat × (Nat → Int32)} {d : Nat} {m : dM} {r : Int32 × dM} (hD : D254 m = some r) : ax_Ev X (d + 7) 254 [.ref 0, .ref 138] (stt m) (.inl (some (.int r.1))) (stt r.2) := by
  unfold D254 at hD
  show ax_Wp X (d + 6 + 1) 254 (0, [some (.ref 0), some (.ref 138), none], []) (stt m) _
  refine ax_Wp.go (f' := (3, [some (.ref 0), some (.ref 138), none], [.ref 0, .int (nI 0), .ref 138])) 3 rfl ?_
  refine cG.sp hD (fun x1 m4 hx hD => ?_) (fun j2 m3 hx hD => ?_)
  · refine ax_Wp.callE (f' := (6, [some (.ref 0), some (.ref 138), none], [.int (nI 0), .ref 138])) rfl rfl (w_79 (d := d + 0) hx) rfl ?_
    refine ax_Wp.go (f' := (7, [some (.ref 0), some (.ref 138), none], [.long x1.toInt64, .int (nI 0), .ref 138])) 1 rfl ?_
    refine ax_Wp.wrL hD rfl rfl (fun _ => rfl) (fun m5 hD => ?_)
    refine ax_Wp.go (f' := (15, [some (.ref 0), some (.ref 138), none], [.int (nI 0)])) 2 rfl ?_
    obtain rfl := inj hD
    exact ax_Wp.ret rfl ⟨rfl, rfl⟩
  · refine swD hD (fun e hD => ?_) (fun _ hD => ?_)
    · cases e
      refine ax_Wp.callH (f' := (6, [some (.ref 0), some (.ref 138), none], [.int (nI 0), .ref 138])) (pc2 := 12) (i := 2) rfl rfl (w_79 (d := d + 0) hx) rfl rfl rfl ?_
      refine ax_Wp.go (f' := (13, [some (.ref 0), some (.ref 138), none], [.int (nI 1)])) 1 rfl ?_
      obtain rfl := inj hD
      exact ax_Wp.ret rfl ⟨rfl, rfl⟩
    cases hD
def D11 (m : dM) (p0 : Int32) : Option (Int32 × dM) := Option.bind ((if (nI 60) ≤ (rI m 42 1) then some m else (sI m 43 60 (rI m 42 1) p0).bind fun (m2 : dM) => (fI m2 42 1 ((rI m2 42 1) + (nI 1))).bind fun (m3 : dM) => some m3) : Option (dM)) fun (v1 : dM) => some (rI v1 42 1, v1)
set_option maxRecDepth 20000 in
theorem w_11 {X : Nat × (Nat → Int32)} {d : Nat} {m : dM} {p0 : Int32} {r : Int32 × dM} (hD : D11 m p0 = some r) : ax_Ev X (d + 1) 11 [.ref 42, .int p0] (stt m) (.inl (some (.int r.1))) (stt r.2) := by
  unfold D11 at hD
  show ax_Wp X (d + 0 + 1) 11 (0, [some (.ref 42), some (.int p0)], []) (stt m) _
  refine ax_Wp.go (f' := (6, [some (.ref 42), some (.int p0)], [.int (nI 60), .int (rI m 42 1)])) 3 rfl ?_
  refine bnd hD (fun v1 hx hD => ?_)
  refine ax_Wp.jn (F := (29, [some (.ref 42), none], [])) (hh := stt v1) ?_ (fun kkv1 => ?_)
  · refine ax_Wp.go (f' := (33, [some (.ref 42), none], [.int (rI v1 42 1)])) 2 rfl ?_
    obtain rfl := inj hD
    exact ax_Wp.ret rfl ⟨rfl, rfl⟩
  clear hD
  have hD := hx
  clear hx
  refine ax_Wp.brD hD rfl (fun _ hD => ?_) (fun _ hD => ?_)
  · obtain rfl := inj hD
    exact ax_Wp.dead kkv1 ⟨.inl rfl, ⟨.inr ⟨rfl, trivial⟩, trivial⟩⟩
  · refine ax_Wp.go (f' := (18, [some (.ref 42), some (.int p0)], [.int p0, .int (rI m 42 1), .ref 43])) 5 rfl ?_
    refine ax_Wp.wrI hD rfl rfl (fun _ => rfl) (fun m2 hD => ?_)
    refine ax_Wp.go (f' := (26, [some (.ref 42), some (.int p0)], [.int ((rI m2 42 1) + (nI 1)), .ref 42])) 5 rfl ?_
    refine ax_Wp.ptI hD rfl rfl rfl (fun m3 hD => ?_)
    obtain rfl := inj hD
    exact ax_Wp.dead kkv1 ⟨.inl rfl, ⟨.inr ⟨rfl, trivial⟩, trivial⟩⟩
def D80 (m : dM) (p0 : Int32) : Option ((Int32 ⊕ Nat) × dM) := if p0 < (nI 33) then some (.inr 1, (bump m)) else if p0 ≤ (nI 126) then if (rI m 42 1) < (nI 60) then (D11 m p0).bind fun (r1 : Int32 × dM) => some (.inl r1.1, r1.2) else some (.inr 2, (bump m)) else some (.inr 1, (bump m))
set_option maxRecDepth 20000 in
theorem w_80 {X : Nat × (Nat → Int32)} {d : Nat} {m : dM} {p0 : Int32} {r : (Int32 ⊕ Nat) × dM} (hD : D80 m p0 = some r) : ax_Ev X (d + 6) 80 [.ref 0, .int p0] (stt m) (oT (fun x => some (.int x)) r.1) (stt r.2) := by
  unfold D80 at hD
  show ax_Wp X (d + 5 + 1) 80 (0, [some (.ref 0), some (.int p0)], []) (stt m) _
  refine ax_Wp.go (f' := (3, [some (.ref 0), some (.int p0)], [.int (nI 33), .int p0])) 2 rfl ?_
  refine ax_Wp.brD hD rfl (fun _ hD => ?_) (fun _ hD => ?_)
  · obtain rfl := inj hD
    exact ax_Wp.thr rfl (ax_six _ rfl) ⟨rfl, rfl⟩
  · refine ax_Wp.go (f' := (9, [some (.ref 0), some (.int p0)], [.int (nI 126), .int p0])) 2 rfl ?_
    refine ax_Wp.brD hD rfl (fun _ hD => ?_) (fun _ hD => ?_)
    · refine ax_Wp.go (f' := (31, [some (.ref 0), some (.int p0)], [.int (nI 60), .int (rI m 42 1)])) 4 rfl ?_
      refine ax_Wp.brD hD rfl (fun _ hD => ?_) (fun _ hD => ?_)
      · refine ax_Wp.go (f' := (49, [some (.ref 0), some (.int p0)], [.int p0, .ref 42])) 3 rfl ?_
        refine bnd hD (fun r1 hx hD => ?_)
        refine ax_Wp.callE (f' := (52, [some (.ref 0), some (.int p0)], [])) rfl rfl (w_11 (d := d + 4) hx) rfl ?_
        obtain rfl := inj hD
        exact ax_Wp.ret rfl ⟨rfl, rfl⟩
      · obtain rfl := inj hD
        exact ax_Wp.thr rfl (ax_six _ rfl) ⟨rfl, rfl⟩
    · obtain rfl := inj hD
      exact ax_Wp.thr rfl (ax_six _ rfl) ⟨rfl, rfl⟩
def D255 (m : dM) (p0 : Int32) : Option (Int32 × dM) := cG (D80 m p0) (fun (x1 : Int32) (m4 : dM) => (sL m4 138 1 (nI 0) x1.toInt64).bind fun (m5 : dM) => some (nI 0, m5)) (fun (j2 : Nat) (m3 : dM) => if j2 = 1 then some (nI 1, m3) else if j2 = 2 then some (nI 2, m3) else none)
set_option maxRecDepth 20000 in
theorem w_255 {X : Nat × (Nat → Int32)} {d : Nat} {m : dM} {p0 : Int32} {r : Int32 × dM} (hD : D255 m p0 = some r) : ax_Ev X (d + 7) 255 [.ref 0, .int p0, .ref 138] (stt m) (.inl (some (.int r.1))) (stt r.2) := by
  unfold D255 at hD
  show ax_Wp X (d + 6 + 1) 255 (0, [some (.ref 0), some (.int p0), some (.ref 138), none], []) (stt m) _
  refine ax_Wp.go (f' := (4, [some (.ref 0), some (.int p0), some (.ref 138), none], [.int p0, .ref 0, .int (nI 0), .ref 138])) 4 rfl ?_
  refine cG.sp hD (fun x1 m4 hx hD => ?_) (fun j2 m3 hx hD => ?_)
  · refine ax_Wp.callE (f' := (7, [some (.ref 0), some (.int p0), some (.ref 138), none], [.int (nI 0), .ref 138])) rfl rfl (w_80 (d := d + 0) hx) rfl ?_
    refine ax_Wp.go (f' := (8, [some (.ref 0), some (.int p0), some (.ref 138), none], [.long x1.toInt64, .int (nI 0), .ref 138])) 1 rfl ?_
    refine ax_Wp.wrL hD rfl rfl (fun _ => rfl) (fun m5 hD => ?_)
    refine ax_Wp.go (f' := (19, [some (.ref 0), some (.int p0), some (.ref 138), none], [.int (nI 0)])) 2 rfl ?_
    obtain rfl := inj hD
    exact ax_Wp.ret rfl ⟨rfl, rfl⟩
  · refine swD hD (fun e hD => ?_) (fun _ hD => ?_)
    · cases e
      refine ax_Wp.callH (f' := (7, [some (.ref 0), some (.int p0), some (.ref 138), none], [.int (nI 0), .ref 138])) (pc2 := 13) (i := 3) rfl rfl (w_80 (d := d + 0) hx) rfl rfl rfl ?_
      refine ax_Wp.go (f' := (14, [some (.ref 0), some (.int p0), some (.ref 138), none], [.int (nI 1)])) 1 rfl ?_
      obtain rfl := inj hD
      exact ax_Wp.ret rfl ⟨rfl, rfl⟩
    refine swD hD (fun e hD => ?_) (fun _ hD => ?_)
    · cases e
      refine ax_Wp.callH (f' := (7, [some (.ref 0), some (.int p0), some (.ref 138), none], [.int (nI 0), .ref 138])) (pc2 := 16) (i := 3) rfl rfl (w_80 (d := d + 0) hx) rfl rfl rfl ?_
      refine ax_Wp.go (f' := (17, [some (.ref 0), some (.int p0), some (.ref 138), none], [.int (nI 2)])) 1 rfl ?_
      obtain rfl := inj hD
      exact ax_Wp.ret rfl ⟨rfl, rfl⟩
    cases hD
def D19 (p0 : Int32) (p1 : Int32) : Option (Int32) := Option.bind ((if p0 < (nI 48) then some (nI 0) else if p1 < p0 then some (nI 0) else some (nI 1)) : Option (Int32)) fun (v1 : Int32) => (gB v1).bind fun (b2 : Int32) => some b2
set_option maxRecDepth 20000 in
theorem w_19 {X : Nat × (Nat → Int32)} {d : Nat} {m : dM} {p0 : Int32} {p1 : Int32} {r : Int32} (hD : D19 p0 p1 = some r) : ax_Ev X (d + 1) 19 [.int p0, .int p1] (stt m) (.inl (some (.int r))) (stt m) := by
  unfold D19 at hD
  show ax_Wp X (d + 0 + 1) 19 (0, [some (.int p0), some (.int p1)], []) (stt m) _
  refine ax_Wp.go (f' := (3, [some (.int p0), some (.int p1)], [.int (nI 48), .int p0])) 2 rfl ?_
  refine bnd hD (fun v1 hx hD => ?_)
  refine ax_Wp.jn (F := (16, [none, none], [.int v1])) (hh := stt m) ?_ (fun kkv1 => ?_)
  · refine ax_Wp.retB hD rfl (fun b2 hD => ?_)
    obtain rfl := inj hD
    exact ⟨rfl, rfl⟩
  clear hD
  have hD := hx
  clear hx
  refine ax_Wp.brD hD rfl (fun _ hD => ?_) (fun _ hD => ?_)
  · refine ax_Wp.go (f' := (16, [some (.int p0), some (.int p1)], [.int (nI 0)])) 1 rfl ?_
    obtain rfl := inj hD
    exact ax_Wp.dead kkv1 ⟨.inr ⟨rfl, trivial⟩, ⟨.inr ⟨rfl, trivial⟩, trivial⟩⟩
  · refine ax_Wp.go (f' := (8, [some (.int p0), some (.int p1)], [.int p1, .int p0])) 2 rfl ?_
    refine ax_Wp.brD hD rfl (fun _ hD => ?_) (fun _ hD => ?_)
    · refine ax_Wp.go (f' := (16, [some (.int p0), some (.int p1)], [.int (nI 0)])) 1 rfl ?_
      obtain rfl := inj hD
      exact ax_Wp.dead kkv1 ⟨.inr ⟨rfl, trivial⟩, ⟨.inr ⟨rfl, trivial⟩, trivial⟩⟩
    · refine ax_Wp.go (f' := (16, [some (.int p0), some (.int p1)], [.int (nI 1)])) 2 rfl ?_
      obtain rfl := inj hD
      exact ax_Wp.dead kkv1 ⟨.inr ⟨rfl, trivial⟩, ⟨.inr ⟨rfl, trivial⟩, trivial⟩⟩
def D18 (p0 : Int32) : Option (Int32) := Option.bind ((if p0 = (nI 59) then some (nI 0) else some (-1)) : Option (Int32)) fun (v1 : Int32) => some v1
set_option maxRecDepth 20000 in
theorem w_18 {X : Nat × (Nat → Int32)} {d : Nat} {m : dM} {p0 : Int32} {r : Int32} (hD : D18 p0 = some r) : ax_Ev X (d + 1) 18 [.int p0] (stt m) (.inl (some (.int r))) (stt m) := by
  unfold D18 at hD
  show ax_Wp X (d + 0 + 1) 18 (0, [some (.int p0)], []) (stt m) _
  refine ax_Wp.go (f' := (3, [some (.int p0)], [.int (nI 59), .int p0])) 2 rfl ?_
  refine bnd hD (fun v1 hx hD => ?_)
  refine ax_Wp.jn (F := (11, [none], [.int v1])) (hh := stt m) ?_ (fun kkv1 => ?_)
  · obtain rfl := inj hD
    exact ax_Wp.ret rfl ⟨rfl, rfl⟩
  clear hD
  have hD := hx
  clear hx
  refine ax_Wp.brD hD rfl (fun _ hD => ?_) (fun _ hD => ?_)
  · refine ax_Wp.go (f' := (11, [some (.int p0)], [.int (nI 0)])) 2 rfl ?_
    obtain rfl := inj hD
    exact ax_Wp.dead kkv1 ⟨.inr ⟨rfl, trivial⟩, trivial⟩
  · refine ax_Wp.go (f' := (11, [some (.int p0)], [.int (-1)])) 1 rfl ?_
    obtain rfl := inj hD
    exact ax_Wp.dead kkv1 ⟨.inr ⟨rfl, trivial⟩, trivial⟩
def D17 (p0 : Int32) : Option (Int32) := if p0 = (nI 49) then some (nI 4) else if p0 = (nI 50) then some (nI 5) else (D19 p0 (nI 57)).bind fun (x1 : Int32) => Option.bind ((if x1 = (nI 0) then some (-1) else some (nI 6)) : Option (Int32)) fun (v2 : Int32) => some v2
set_option maxRecDepth 20000 in
theorem w_17 {X : Nat × (Nat → Int32)} {d : Nat} {m : dM} {p0 : Int32} {r : Int32} (hD : D17 p0 = some r) : ax_Ev X (d + 2) 17 [.int p0] (stt m) (.inl (some (.int r))) (stt m) := by
  unfold D17 at hD
  show ax_Wp X (d + 1 + 1) 17 (0, [some (.int p0)], []) (stt m) _
  refine ax_Wp.go (f' := (3, [some (.int p0)], [.int (nI 49), .int p0])) 2 rfl ?_
  refine ax_Wp.brD hD rfl (fun _ hD => ?_) (fun _ hD => ?_)
  · refine ax_Wp.go (f' := (7, [some (.int p0)], [.int (nI 4)])) 1 rfl ?_
    obtain rfl := inj hD
    exact ax_Wp.ret rfl ⟨rfl, rfl⟩
  · refine ax_Wp.go (f' := (11, [some (.int p0)], [.int (nI 50), .int p0])) 2 rfl ?_
    refine ax_Wp.brD hD rfl (fun _ hD => ?_) (fun _ hD => ?_)
    · refine ax_Wp.go (f' := (15, [some (.int p0)], [.int (nI 5)])) 1 rfl ?_
      obtain rfl := inj hD
      exact ax_Wp.ret rfl ⟨rfl, rfl⟩
    · refine ax_Wp.go (f' := (19, [some (.int p0)], [.int (nI 57), .int p0])) 2 rfl ?_
      refine bnd hD (fun x1 hx hD => ?_)
      refine ax_Wp.callE (f' := (22, [some (.int p0)], [])) rfl rfl (w_19 (d := d + 0) hx) rfl ?_
      refine bnd hD (fun v2 hx hD => ?_)
      refine ax_Wp.jn (F := (31, [none], [.int v2])) (hh := stt m) ?_ (fun kkv2 => ?_)
      · obtain rfl := inj hD
        exact ax_Wp.ret rfl ⟨rfl, rfl⟩
      clear hD
      have hD := hx
      clear hx
      refine ax_Wp.brD hD rfl (fun _ hD => ?_) (fun _ hD => ?_)
      · refine ax_Wp.go (f' := (31, [some (.int p0)], [.int (-1)])) 1 rfl ?_
        obtain rfl := inj hD
        exact ax_Wp.dead kkv2 ⟨.inr ⟨rfl, trivial⟩, trivial⟩
      · refine ax_Wp.go (f' := (31, [some (.int p0)], [.int (nI 6)])) 2 rfl ?_
        obtain rfl := inj hD
        exact ax_Wp.dead kkv2 ⟨.inr ⟨rfl, trivial⟩, trivial⟩
def D16 (p0 : Int32) : Option (Int32) := if p0 = nI 111 then some (nI 1) else if p0 = nI 112 then some (-1) else if p0 = nI 113 then some (-1) else if p0 = nI 114 then some (nI 6) else if p0 = nI 115 then some (nI 7) else if p0 = nI 116 then some (nI 3) else some (-1)
set_option maxRecDepth 20000 in
theorem w_16 {X : Nat × (Nat → Int32)} {d : Nat} {m : dM} {p0 : Int32} {r : Int32} (hD : D16 p0 = some r) : ax_Ev X (d + 1) 16 [.int p0] (stt m) (.inl (some (.int r))) (stt m) := by
  unfold D16 at hD
  show ax_Wp X (d + 0 + 1) 16 (0, [some (.int p0)], []) (stt m) _
  refine ax_Wp.go (f' := (1, [some (.int p0)], [.int p0])) 1 rfl ?_
  refine swD hD (fun q111 hD => ?_) (fun q111 hD => ?_)
  · refine ax_Wp.eqx q111 ?_
    refine ax_Wp.go (f' := (40, [some (.int p0)], [])) 1 rfl ?_
    refine ax_Wp.go (f' := (41, [some (.int p0)], [.int (nI 1)])) 1 rfl ?_
    obtain rfl := inj hD
    exact ax_Wp.ret rfl ⟨rfl, rfl⟩
  refine swD hD (fun q112 hD => ?_) (fun q112 hD => ?_)
  · refine ax_Wp.eqx q112 ?_
    refine ax_Wp.go (f' := (50, [some (.int p0)], [])) 1 rfl ?_
    refine ax_Wp.go (f' := (51, [some (.int p0)], [.int (-1)])) 1 rfl ?_
    obtain rfl := inj hD
    exact ax_Wp.ret rfl ⟨rfl, rfl⟩
  refine swD hD (fun q113 hD => ?_) (fun q113 hD => ?_)
  · refine ax_Wp.eqx q113 ?_
    refine ax_Wp.go (f' := (50, [some (.int p0)], [])) 1 rfl ?_
    refine ax_Wp.go (f' := (51, [some (.int p0)], [.int (-1)])) 1 rfl ?_
    obtain rfl := inj hD
    exact ax_Wp.ret rfl ⟨rfl, rfl⟩
  refine swD hD (fun q114 hD => ?_) (fun q114 hD => ?_)
  · refine ax_Wp.eqx q114 ?_
    refine ax_Wp.go (f' := (47, [some (.int p0)], [])) 1 rfl ?_
    refine ax_Wp.go (f' := (49, [some (.int p0)], [.int (nI 6)])) 1 rfl ?_
    obtain rfl := inj hD
    exact ax_Wp.ret rfl ⟨rfl, rfl⟩
  refine swD hD (fun q115 hD => ?_) (fun q115 hD => ?_)
  · refine ax_Wp.eqx q115 ?_
    refine ax_Wp.go (f' := (42, [some (.int p0)], [])) 1 rfl ?_
    refine ax_Wp.go (f' := (44, [some (.int p0)], [.int (nI 7)])) 1 rfl ?_
    obtain rfl := inj hD
    exact ax_Wp.ret rfl ⟨rfl, rfl⟩
  refine swD hD (fun q116 hD => ?_) (fun q116 hD => ?_)
  · refine ax_Wp.eqx q116 ?_
    refine ax_Wp.go (f' := (45, [some (.int p0)], [])) 1 rfl ?_
    refine ax_Wp.go (f' := (46, [some (.int p0)], [.int (nI 3)])) 1 rfl ?_
    obtain rfl := inj hD
    exact ax_Wp.ret rfl ⟨rfl, rfl⟩
  refine ax_Wp.st (f' := (50, [some (.int p0)], [])) (ax_tsw rfl rfl (ax_ts6 q111 q112 q113 q114 q115 q116)) ?_
  refine ax_Wp.go (f' := (51, [some (.int p0)], [.int (-1)])) 1 rfl ?_
  obtain rfl := inj hD
  exact ax_Wp.ret rfl ⟨rfl, rfl⟩
def D15 (p0 : Int32) (p1 : Int32) : Option (Int32) := if p0 = nI 0 then (D16 p1).bind fun (x1 : Int32) => some x1 else if p0 = nI 1 then (D19 p1 (nI 51)).bind fun (x2 : Int32) => Option.bind ((if x2 = (nI 0) then some (-1) else some (nI 2)) : Option (Int32)) fun (v3 : Int32) => some v3 else if p0 = nI 2 then Option.bind ((if p1 = (nI 62) then some (nI 3) else some (-1)) : Option (Int32)) fun (v4 : Int32) => some v4 else if p0 = nI 3 then (D17 p1).bind fun (x5 : Int32) => some x5 else if p0 = nI 4 then (D19 p1 (nI 57)).bind fun (x6 : Int32) => Option.bind ((if x6 = (nI 0) then (D18 p1).bind fun (x8 : Int32) => some x8 else some (nI 6)) : Option (Int32)) fun (v7 : Int32) => some v7 else if p0 = nI 5 then (D19 p1 (nI 51)).bind fun (x9 : Int32) => Option.bind ((if x9 = (nI 0) then (D18 p1).bind fun (x11 : Int32) => some x11 else some (nI 6)) : Option (Int32)) fun (v10 : Int32) => some v10 else if p0 = nI 6 then (D18 p1).bind fun (x12 : Int32) => some x12 else if p0 = nI 7 then (D19 p1 (nI 51)).bind fun (x13 : Int32) => Option.bind ((if x13 = (nI 0) then some (-1) else some (nI 6)) : Option (Int32)) fun (v14 : Int32) => some v14 else some (-1)
set_option maxRecDepth 20000 in
theorem w_15 {X : Nat × (Nat → Int32)} {d : Nat} {m : dM} {p0 : Int32} {p1 : Int32} {r : Int32} (hD : D15 p0 p1 = some r) : ax_Ev X (d + 3) 15 [.int p0, .int p1] (stt m) (.inl (some (.int r))) (stt m) := by
  unfold D15 at hD
  show ax_Wp X (d + 2 + 1) 15 (0, [some (.int p0), some (.int p1)], []) (stt m) _
  refine ax_Wp.go (f' := (1, [some (.int p0), some (.int p1)], [.int p0])) 1 rfl ?_
  refine swD hD (fun q0 hD => ?_) (fun q0 hD => ?_)
  · refine ax_Wp.eqx q0 ?_
    refine ax_Wp.go (f' := (48, [some (.int p0), some (.int p1)], [])) 1 rfl ?_
    refine ax_Wp.go (f' := (49, [some (.int p0), some (.int p1)], [.int p1])) 1 rfl ?_
    refine bnd hD (fun x1 hx hD => ?_)
    refine ax_Wp.callE (f' := (52, [some (.int p0), some (.int p1)], [])) rfl rfl (w_16 (d := d + 1) hx) rfl ?_
    obtain rfl := inj hD
    exact ax_Wp.ret rfl ⟨rfl, rfl⟩
  refine swD hD (fun q1 hD => ?_) (fun q1 hD => ?_)
  · refine ax_Wp.eqx q1 ?_
    refine ax_Wp.go (f' := (53, [some (.int p0), some (.int p1)], [])) 1 rfl ?_
    refine ax_Wp.go (f' := (56, [some (.int p0), some (.int p1)], [.int (nI 51), .int p1])) 2 rfl ?_
    refine bnd hD (fun x2 hx hD => ?_)
    refine ax_Wp.callE (f' := (59, [some (.int p0), some (.int p1)], [])) rfl rfl (w_19 (d := d + 1) hx) rfl ?_
    refine bnd hD (fun v3 hx hD => ?_)
    refine ax_Wp.jn (F := (67, [none, none], [.int v3])) (hh := stt m) ?_ (fun kkv3 => ?_)
    · obtain rfl := inj hD
      exact ax_Wp.ret rfl ⟨rfl, rfl⟩
    clear hD
    have hD := hx
    clear hx
    refine ax_Wp.brD hD rfl (fun _ hD => ?_) (fun _ hD => ?_)
    · refine ax_Wp.go (f' := (67, [some (.int p0), some (.int p1)], [.int (-1)])) 1 rfl ?_
      obtain rfl := inj hD
      exact ax_Wp.dead kkv3 ⟨.inr ⟨rfl, trivial⟩, ⟨.inr ⟨rfl, trivial⟩, trivial⟩⟩
    · refine ax_Wp.go (f' := (67, [some (.int p0), some (.int p1)], [.int (nI 2)])) 2 rfl ?_
      obtain rfl := inj hD
      exact ax_Wp.dead kkv3 ⟨.inr ⟨rfl, trivial⟩, ⟨.inr ⟨rfl, trivial⟩, trivial⟩⟩
  refine swD hD (fun q2 hD => ?_) (fun q2 hD => ?_)
  · refine ax_Wp.eqx q2 ?_
    refine ax_Wp.go (f' := (84, [some (.int p0), some (.int p1)], [])) 1 rfl ?_
    refine ax_Wp.go (f' := (87, [some (.int p0), some (.int p1)], [.int (nI 62), .int p1])) 2 rfl ?_
    refine bnd hD (fun v4 hx hD => ?_)
    refine ax_Wp.jn (F := (95, [none, none], [.int v4])) (hh := stt m) ?_ (fun kkv4 => ?_)
    · obtain rfl := inj hD
      exact ax_Wp.ret rfl ⟨rfl, rfl⟩
    clear hD
    have hD := hx
    clear hx
    refine ax_Wp.brD hD rfl (fun _ hD => ?_) (fun _ hD => ?_)
    · refine ax_Wp.go (f' := (95, [some (.int p0), some (.int p1)], [.int (nI 3)])) 2 rfl ?_
      obtain rfl := inj hD
      exact ax_Wp.dead kkv4 ⟨.inr ⟨rfl, trivial⟩, ⟨.inr ⟨rfl, trivial⟩, trivial⟩⟩
    · refine ax_Wp.go (f' := (95, [some (.int p0), some (.int p1)], [.int (-1)])) 1 rfl ?_
      obtain rfl := inj hD
      exact ax_Wp.dead kkv4 ⟨.inr ⟨rfl, trivial⟩, ⟨.inr ⟨rfl, trivial⟩, trivial⟩⟩
  refine swD hD (fun q3 hD => ?_) (fun q3 hD => ?_)
  · refine ax_Wp.eqx q3 ?_
    refine ax_Wp.go (f' := (96, [some (.int p0), some (.int p1)], [])) 1 rfl ?_
    refine ax_Wp.go (f' := (97, [some (.int p0), some (.int p1)], [.int p1])) 1 rfl ?_
    refine bnd hD (fun x5 hx hD => ?_)
    refine ax_Wp.callE (f' := (100, [some (.int p0), some (.int p1)], [])) rfl rfl (w_17 (d := d + 0) hx) rfl ?_
    obtain rfl := inj hD
    exact ax_Wp.ret rfl ⟨rfl, rfl⟩
  refine swD hD (fun q4 hD => ?_) (fun q4 hD => ?_)
  · refine ax_Wp.eqx q4 ?_
    refine ax_Wp.go (f' := (101, [some (.int p0), some (.int p1)], [])) 1 rfl ?_
    refine ax_Wp.go (f' := (104, [some (.int p0), some (.int p1)], [.int (nI 57), .int p1])) 2 rfl ?_
    refine bnd hD (fun x6 hx hD => ?_)
    refine ax_Wp.callE (f' := (107, [some (.int p0), some (.int p1)], [])) rfl rfl (w_19 (d := d + 1) hx) rfl ?_
    refine bnd hD (fun v7 hx hD => ?_)
    refine ax_Wp.jn (F := (119, [none, none], [.int v7])) (hh := stt m) ?_ (fun kkv7 => ?_)
    · obtain rfl := inj hD
      exact ax_Wp.ret rfl ⟨rfl, rfl⟩
    clear hD
    have hD := hx
    clear hx
    refine ax_Wp.brD hD rfl (fun _ hD => ?_) (fun _ hD => ?_)
    · refine ax_Wp.go (f' := (116, [some (.int p0), some (.int p1)], [.int p1])) 1 rfl ?_
      refine bnd hD (fun x8 hx hD => ?_)
      refine ax_Wp.callE (f' := (119, [some (.int p0), some (.int p1)], [])) rfl rfl (w_18 (d := d + 1) hx) rfl ?_
      obtain rfl := inj hD
      exact ax_Wp.dead kkv7 ⟨.inr ⟨rfl, trivial⟩, ⟨.inr ⟨rfl, trivial⟩, trivial⟩⟩
    · refine ax_Wp.go (f' := (119, [some (.int p0), some (.int p1)], [.int (nI 6)])) 2 rfl ?_
      obtain rfl := inj hD
      exact ax_Wp.dead kkv7 ⟨.inr ⟨rfl, trivial⟩, ⟨.inr ⟨rfl, trivial⟩, trivial⟩⟩
  refine swD hD (fun q5 hD => ?_) (fun q5 hD => ?_)
  · refine ax_Wp.eqx q5 ?_
    refine ax_Wp.go (f' := (120, [some (.int p0), some (.int p1)], [])) 1 rfl ?_
    refine ax_Wp.go (f' := (123, [some (.int p0), some (.int p1)], [.int (nI 51), .int p1])) 2 rfl ?_
    refine bnd hD (fun x9 hx hD => ?_)
    refine ax_Wp.callE (f' := (126, [some (.int p0), some (.int p1)], [])) rfl rfl (w_19 (d := d + 1) hx) rfl ?_
    refine bnd hD (fun v10 hx hD => ?_)
    refine ax_Wp.jn (F := (138, [none, none], [.int v10])) (hh := stt m) ?_ (fun kkv10 => ?_)
    · obtain rfl := inj hD
      exact ax_Wp.ret rfl ⟨rfl, rfl⟩
    clear hD
    have hD := hx
    clear hx
    refine ax_Wp.brD hD rfl (fun _ hD => ?_) (fun _ hD => ?_)
    · refine ax_Wp.go (f' := (135, [some (.int p0), some (.int p1)], [.int p1])) 1 rfl ?_
      refine bnd hD (fun x11 hx hD => ?_)
      refine ax_Wp.callE (f' := (138, [some (.int p0), some (.int p1)], [])) rfl rfl (w_18 (d := d + 1) hx) rfl ?_
      obtain rfl := inj hD
      exact ax_Wp.dead kkv10 ⟨.inr ⟨rfl, trivial⟩, ⟨.inr ⟨rfl, trivial⟩, trivial⟩⟩
    · refine ax_Wp.go (f' := (138, [some (.int p0), some (.int p1)], [.int (nI 6)])) 2 rfl ?_
      obtain rfl := inj hD
      exact ax_Wp.dead kkv10 ⟨.inr ⟨rfl, trivial⟩, ⟨.inr ⟨rfl, trivial⟩, trivial⟩⟩
  refine swD hD (fun q6 hD => ?_) (fun q6 hD => ?_)
  · refine ax_Wp.eqx q6 ?_
    refine ax_Wp.go (f' := (139, [some (.int p0), some (.int p1)], [])) 1 rfl ?_
    refine ax_Wp.go (f' := (140, [some (.int p0), some (.int p1)], [.int p1])) 1 rfl ?_
    refine bnd hD (fun x12 hx hD => ?_)
    refine ax_Wp.callE (f' := (143, [some (.int p0), some (.int p1)], [])) rfl rfl (w_18 (d := d + 1) hx) rfl ?_
    obtain rfl := inj hD
    exact ax_Wp.ret rfl ⟨rfl, rfl⟩
  refine swD hD (fun q7 hD => ?_) (fun q7 hD => ?_)
  · refine ax_Wp.eqx q7 ?_
    refine ax_Wp.go (f' := (68, [some (.int p0), some (.int p1)], [])) 1 rfl ?_
    refine ax_Wp.go (f' := (71, [some (.int p0), some (.int p1)], [.int (nI 51), .int p1])) 2 rfl ?_
    refine bnd hD (fun x13 hx hD => ?_)
    refine ax_Wp.callE (f' := (74, [some (.int p0), some (.int p1)], [])) rfl rfl (w_19 (d := d + 1) hx) rfl ?_
    refine bnd hD (fun v14 hx hD => ?_)
    refine ax_Wp.jn (F := (83, [none, none], [.int v14])) (hh := stt m) ?_ (fun kkv14 => ?_)
    · obtain rfl := inj hD
      exact ax_Wp.ret rfl ⟨rfl, rfl⟩
    clear hD
    have hD := hx
    clear hx
    refine ax_Wp.brD hD rfl (fun _ hD => ?_) (fun _ hD => ?_)
    · refine ax_Wp.go (f' := (83, [some (.int p0), some (.int p1)], [.int (-1)])) 1 rfl ?_
      obtain rfl := inj hD
      exact ax_Wp.dead kkv14 ⟨.inr ⟨rfl, trivial⟩, ⟨.inr ⟨rfl, trivial⟩, trivial⟩⟩
    · refine ax_Wp.go (f' := (83, [some (.int p0), some (.int p1)], [.int (nI 6)])) 2 rfl ?_
      obtain rfl := inj hD
      exact ax_Wp.dead kkv14 ⟨.inr ⟨rfl, trivial⟩, ⟨.inr ⟨rfl, trivial⟩, trivial⟩⟩
  refine ax_Wp.st (f' := (144, [some (.int p0), some (.int p1)], [])) (ax_tsw rfl rfl (ax_ts8 q0 q1 q2 q3 q4 q5 q6 q7)) ?_
  refine ax_Wp.go (f' := (145, [some (.int p0), some (.int p1)], [.int (-1)])) 1 rfl ?_
  obtain rfl := inj hD
  exact ax_Wp.ret rfl ⟨rfl, rfl⟩
def D14 (m : dM) : Option (Int32) := Option.bind (lp (β := Int32) 3000 (fun (s1 : Int32 × Int32) => if (rI m 42 1) ≤ s1.2 then some (.inr s1.1) else (gI m 43 60 s1.2).bind fun (x3 : Int32) => (D15 s1.1 x3).bind fun (x4 : Int32) => some (.inl (x4, s1.2 + (nI 1)))) (nI 0, nI 0)) fun (v2 : Int32) => Option.bind ((if v2 = (nI 4) then some (nI 1) else if v2 = (nI 5) then some (nI 1) else if v2 = (nI 6) then some (nI 1) else some (nI 0)) : Option (Int32)) fun (v5 : Int32) => (gB v5).bind fun (b6 : Int32) => some b6
set_option maxRecDepth 20000 in
theorem w_14 {X : Nat × (Nat → Int32)} {d : Nat} {m : dM} {r : Int32} (hD : D14 m = some r) : ax_Ev X (d + 4) 14 [.ref 42] (stt m) (.inl (some (.int r))) (stt m) := by
  unfold D14 at hD
  show ax_Wp X (d + 3 + 1) 14 (0, [some (.ref 42), none, none], []) (stt m) _
  refine ax_Wp.go (f' := (4, [some (.ref 42), some (.int (nI 0)), some (.int (nI 0))], [])) 4 rfl ?_
  refine bnd hD (fun v2 hx hD => ?_)
  refine ax_Wp.jn (F := (29, [some (.ref 42), some (.int v2), none], [])) (hh := stt m) ?_ (fun kkv2 => ?_)
  · refine ax_Wp.go (f' := (31, [some (.ref 42), some (.int v2), none], [.int (nI 4), .int v2])) 2 rfl ?_
    refine bnd hD (fun v5 hx hD => ?_)
    refine ax_Wp.jn (F := (50, [some (.ref 42), none, none], [.int v5])) (hh := stt m) ?_ (fun kkv5 => ?_)
    · refine ax_Wp.retB hD rfl (fun b6 hD => ?_)
      obtain rfl := inj hD
      exact ⟨rfl, rfl⟩
    clear hD
    have hD := hx
    clear hx
    refine ax_Wp.brD hD rfl (fun _ hD => ?_) (fun _ hD => ?_)
    · refine ax_Wp.go (f' := (50, [some (.ref 42), some (.int v2), none], [.int (nI 1)])) 2 rfl ?_
      obtain rfl := inj hD
      exact ax_Wp.dead kkv5 ⟨.inl rfl, ⟨.inr ⟨rfl, trivial⟩, ⟨.inl rfl, trivial⟩⟩⟩
    · refine ax_Wp.go (f' := (36, [some (.ref 42), some (.int v2), none], [.int (nI 5), .int v2])) 2 rfl ?_
      refine ax_Wp.brD hD rfl (fun _ hD => ?_) (fun _ hD => ?_)
      · refine ax_Wp.go (f' := (50, [some (.ref 42), some (.int v2), none], [.int (nI 1)])) 2 rfl ?_
        obtain rfl := inj hD
        exact ax_Wp.dead kkv5 ⟨.inl rfl, ⟨.inr ⟨rfl, trivial⟩, ⟨.inl rfl, trivial⟩⟩⟩
      · refine ax_Wp.go (f' := (42, [some (.ref 42), some (.int v2), none], [.int (nI 6), .int v2])) 2 rfl ?_
        refine ax_Wp.brD hD rfl (fun _ hD => ?_) (fun _ hD => ?_)
        · refine ax_Wp.go (f' := (50, [some (.ref 42), some (.int v2), none], [.int (nI 1)])) 2 rfl ?_
          obtain rfl := inj hD
          exact ax_Wp.dead kkv5 ⟨.inl rfl, ⟨.inr ⟨rfl, trivial⟩, ⟨.inl rfl, trivial⟩⟩⟩
        · refine ax_Wp.go (f' := (50, [some (.ref 42), some (.int v2), none], [.int (nI 0)])) 1 rfl ?_
          obtain rfl := inj hD
          exact ax_Wp.dead kkv5 ⟨.inl rfl, ⟨.inr ⟨rfl, trivial⟩, ⟨.inl rfl, trivial⟩⟩⟩
  clear hD
  refine ax_Wp.lpD (fun (s1 : Int32 × Int32) => ((4, [some (.ref 42), some (.int s1.1), some (.int s1.2)], []), stt m)) ?_ hx
  clear hx
  intro s1 v hD ks1
  refine ax_Wp.go (f' := (9, [some (.ref 42), some (.int s1.1), some (.int s1.2)], [.int (rI m 42 1), .int s1.2])) 3 rfl ?_
  refine ax_Wp.brD hD rfl (fun _ hD => ?_) (fun _ hD => ?_)
  · obtain rfl := inj hD
    obtain rfl := ks1.o
    exact ax_Wp.dead kkv2 ⟨.inl rfl, ⟨.inl rfl, ⟨.inr ⟨rfl, trivial⟩, trivial⟩⟩⟩
  · refine ax_Wp.go (f' := (18, [some (.ref 42), some (.int s1.1), some (.int s1.2)], [.int s1.2, .ref 43, .int s1.1])) 4 rfl ?_
    refine ax_Wp.rdI hD rfl rfl rfl (fun x3 hD => ?_)
    refine bnd hD (fun x4 hx hD => ?_)
    refine ax_Wp.callE (f' := (22, [some (.ref 42), some (.int s1.1), some (.int s1.2)], [])) rfl rfl (w_15 (d := d + 0) hx) rfl ?_
    refine ax_Wp.go (f' := (4, [some (.ref 42), some (.int x4), some (.int (s1.2 + (nI 1)))], [])) 3 rfl ?_
    obtain rfl := inj hD
    exact ks1.i
