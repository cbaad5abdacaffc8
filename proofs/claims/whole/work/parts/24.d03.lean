/-! WHAT METHODS DO, printed of their bytecode: 3 -/
def D251 (m : dM) (p0 : Int32) : Option (Int32 × dM) := cG (D76 m p0) (fun (x1 : Int32) (m4 : dM) => (sL m4 138 1 (nI 0) x1.toInt64).bind fun (m5 : dM) => some (nI 0, m5)) (fun (j2 : Nat) (m3 : dM) => if j2 = 1 then some (nI 1, m3) else none)
set_option maxRecDepth 20000 in
theorem w_251 {X : Nat × (Nat → Int32)} {d : Nat} {m : dM} {p0 : Int32} {r : Int32 × dM} (hD : D251 m p0 = some r) : ax_Ev X (d + 7) 251 [.ref 0, .int p0, .ref 138] (stt m) (.inl (some (.int r.1))) (stt r.2) := by
  unfold D251 at hD
  show ax_Wp X (d + 6 + 1) 251 (0, [some (.ref 0), some (.int p0), some (.ref 138), none], []) (stt m) _
  refine ax_Wp.go (f' := (4, [some (.ref 0), some (.int p0), some (.ref 138), none], [.int p0, .ref 0, .int (nI 0), .ref 138])) 4 rfl ?_
  refine cG.sp hD (fun x1 m4 hx hD => ?_) (fun j2 m3 hx hD => ?_)
  · refine ax_Wp.callE (f' := (7, [some (.ref 0), some (.int p0), some (.ref 138), none], [.int (nI 0), .ref 138])) rfl rfl (w_76 (d := d + 0) hx) rfl ?_
    refine ax_Wp.go (f' := (8, [some (.ref 0), some (.int p0), some (.ref 138), none], [.long x1.toInt64, .int (nI 0), .ref 138])) 1 rfl ?_
    refine ax_Wp.wrL hD rfl rfl (fun _ => rfl) (fun m5 hD => ?_)
    refine ax_Wp.go (f' := (16, [some (.ref 0), some (.int p0), some (.ref 138), none], [.int (nI 0)])) 2 rfl ?_
    obtain rfl := inj hD
    exact ax_Wp.ret rfl ⟨rfl, rfl⟩
  · refine swD hD (fun e hD => ?_) (fun _ hD => ?_)
    · cases e
      refine ax_Wp.callH (f' := (7, [some (.ref 0), some (.int p0), some (.ref 138), none], [.int (nI 0), .ref 138])) (pc2 := 13) (i := 3) rfl rfl (w_76 (d := d + 0) hx) rfl rfl rfl ?_
      refine ax_Wp.go (f' := (14, [some (.ref 0), some (.int p0), some (.ref 138), none], [.int (nI 1)])) 1 rfl ?_
      obtain rfl := inj hD
      exact ax_Wp.ret rfl ⟨rfl, rfl⟩
    cases hD
def D24 (m : dM) (p0 : Int64) : Option (Int32) := Option.bind (lp (β := Int32) 3000 (fun (s1 : Int32 × Int32) => if (rI m 15 1) ≤ s1.2 then some (.inr s1.1) else (gL m 16 61 s1.2).bind fun (x3 : Int64) => Option.bind ((if (lg_cmp x3 p0) = (nI 0) then some (s1.1 + (nI 1)) else some s1.1) : Option (Int32)) fun (v4 : Int32) => some (.inl (v4, s1.2 + (nI 1)))) (nI 0, nI 0)) fun (v2 : Int32) => some v2
set_option maxRecDepth 20000 in
theorem w_24 {X : Nat × (Nat → Int32)} {d : Nat} {m : dM} {p0 : Int64} {r : Int32} (hD : D24 m p0 = some r) : ax_Ev X (d + 1) 24 [.ref 15, .long p0] (stt m) (.inl (some (.int r))) (stt m) := by
  unfold D24 at hD
  show ax_Wp X (d + 0 + 1) 24 (0, [some (.ref 15), some (.long p0), none, none, none], []) (stt m) _
  refine ax_Wp.go (f' := (5, [some (.ref 15), some (.long p0), none, some (.int (nI 0)), some (.int (nI 0))], [])) 4 rfl ?_
  refine bnd hD (fun v2 hx hD => ?_)
  refine ax_Wp.jn (F := (35, [some (.ref 15), none, none, some (.int v2), none], [])) (hh := stt m) ?_ (fun kkv2 => ?_)
  · refine ax_Wp.go (f' := (36, [some (.ref 15), none, none, some (.int v2), none], [.int v2])) 1 rfl ?_
    obtain rfl := inj hD
    exact ax_Wp.ret rfl ⟨rfl, rfl⟩
  clear hD
  refine ax_Wp.lpD (fun (s1 : Int32 × Int32) => ((5, [some (.ref 15), some (.long p0), none, some (.int s1.1), some (.int s1.2)], []), stt m)) ?_ hx
  clear hx
  intro s1 v hD ks1
  refine ax_Wp.go (f' := (11, [some (.ref 15), some (.long p0), none, some (.int s1.1), some (.int s1.2)], [.int (rI m 15 1), .int s1.2])) 3 rfl ?_
  refine ax_Wp.brD hD rfl (fun _ hD => ?_) (fun _ hD => ?_)
  · obtain rfl := inj hD
    obtain rfl := ks1.o
    exact ax_Wp.dead kkv2 ⟨.inl rfl, ⟨.inr ⟨rfl, trivial⟩, ⟨.inl rfl, ⟨.inl rfl, ⟨.inr ⟨rfl, trivial⟩, trivial⟩⟩⟩⟩⟩
  · refine ax_Wp.go (f' := (20, [some (.ref 15), some (.long p0), none, some (.int s1.1), some (.int s1.2)], [.int s1.2, .ref 16])) 3 rfl ?_
    refine ax_Wp.rdL hD rfl rfl rfl (fun x3 hD => ?_)
    refine ax_Wp.go (f' := (23, [some (.ref 15), some (.long p0), none, some (.int s1.1), some (.int s1.2)], [.int (lg_cmp x3 p0)])) 2 rfl ?_
    refine bnd hD (fun v4 hx hD => ?_)
    refine ax_Wp.jn (F := (29, [some (.ref 15), some (.long p0), none, some (.int v4), some (.int s1.2)], [])) (hh := stt m) ?_ (fun kkv4 => ?_)
    · refine ax_Wp.go (f' := (5, [some (.ref 15), some (.long p0), none, some (.int v4), some (.int (s1.2 + (nI 1)))], [])) 2 rfl ?_
      obtain rfl := inj hD
      exact ks1.i
    clear hD
    have hD := hx
    clear hx
    refine ax_Wp.brD hD rfl (fun _ hD => ?_) (fun _ hD => ?_)
    · refine ax_Wp.go (f' := (29, [some (.ref 15), some (.long p0), none, some (.int (s1.1 + (nI 1))), some (.int s1.2)], [])) 1 rfl ?_
      obtain rfl := inj hD
      exact kkv4
    · obtain rfl := inj hD
      exact kkv4
def D35 (m : dM) : Option (Int32) := Option.bind (lp (β := Int32) 3000 (fun (s1 : Int32 × Int32) => if (rI m 10 4) ≤ s1.2 then some (.inr s1.1) else (gI m 14 8 s1.2).bind fun (x3 : Int32) => Option.bind ((if x3 < (nI 14) then some s1.1 else some (s1.1 + (nI 1))) : Option (Int32)) fun (v4 : Int32) => some (.inl (v4, s1.2 + (nI 1)))) (nI 0, nI 0)) fun (v2 : Int32) => some v2
set_option maxRecDepth 20000 in
theorem w_35 {X : Nat × (Nat → Int32)} {d : Nat} {m : dM} {r : Int32} (hD : D35 m = some r) : ax_Ev X (d + 1) 35 [.ref 10] (stt m) (.inl (some (.int r))) (stt m) := by
  unfold D35 at hD
  show ax_Wp X (d + 0 + 1) 35 (0, [some (.ref 10), none, none], []) (stt m) _
  refine ax_Wp.go (f' := (4, [some (.ref 10), some (.int (nI 0)), some (.int (nI 0))], [])) 4 rfl ?_
  refine bnd hD (fun v2 hx hD => ?_)
  refine ax_Wp.jn (F := (32, [some (.ref 10), some (.int v2), none], [])) (hh := stt m) ?_ (fun kkv2 => ?_)
  · refine ax_Wp.go (f' := (33, [some (.ref 10), some (.int v2), none], [.int v2])) 1 rfl ?_
    obtain rfl := inj hD
    exact ax_Wp.ret rfl ⟨rfl, rfl⟩
  clear hD
  refine ax_Wp.lpD (fun (s1 : Int32 × Int32) => ((4, [some (.ref 10), some (.int s1.1), some (.int s1.2)], []), stt m)) ?_ hx
  clear hx
  intro s1 v hD ks1
  refine ax_Wp.go (f' := (9, [some (.ref 10), some (.int s1.1), some (.int s1.2)], [.int (rI m 10 4), .int s1.2])) 3 rfl ?_
  refine ax_Wp.brD hD rfl (fun _ hD => ?_) (fun _ hD => ?_)
  · obtain rfl := inj hD
    obtain rfl := ks1.o
    exact ax_Wp.dead kkv2 ⟨.inl rfl, ⟨.inl rfl, ⟨.inr ⟨rfl, trivial⟩, trivial⟩⟩⟩
  · refine ax_Wp.go (f' := (17, [some (.ref 10), some (.int s1.1), some (.int s1.2)], [.int s1.2, .ref 14])) 3 rfl ?_
    refine ax_Wp.rdI hD rfl rfl rfl (fun x3 hD => ?_)
    refine ax_Wp.go (f' := (20, [some (.ref 10), some (.int s1.1), some (.int s1.2)], [.int (nI 14), .int x3])) 1 rfl ?_
    refine bnd hD (fun v4 hx hD => ?_)
    refine ax_Wp.jn (F := (26, [some (.ref 10), some (.int v4), some (.int s1.2)], [])) (hh := stt m) ?_ (fun kkv4 => ?_)
    · refine ax_Wp.go (f' := (4, [some (.ref 10), some (.int v4), some (.int (s1.2 + (nI 1)))], [])) 2 rfl ?_
      obtain rfl := inj hD
      exact ks1.i
    clear hD
    have hD := hx
    clear hx
    refine ax_Wp.brD hD rfl (fun _ hD => ?_) (fun _ hD => ?_)
    · obtain rfl := inj hD
      exact kkv4
    · refine ax_Wp.go (f' := (26, [some (.ref 10), some (.int (s1.1 + (nI 1))), some (.int s1.2)], [])) 1 rfl ?_
      obtain rfl := inj hD
      exact kkv4
def D44 (m : dM) : Option (Int32) := if (rI m 10 4) ≤ (nI 0) then (D42 m).bind fun (x1 : Int64) => (D24 m x1).bind fun (x2 : Int32) => if x2 < (nI 3) then Option.bind ((if (rI m 1 7) < (rI m 1 6) then some (nI 0) else some (nI 3)) : Option (Int32)) fun (v3 : Int32) => some v3 else some (nI 2) else (D35 m).bind fun (x4 : Int32) => if x4 = (rI m 10 4) then some (nI 1) else (D42 m).bind fun (x5 : Int64) => (D24 m x5).bind fun (x6 : Int32) => if x6 < (nI 3) then Option.bind ((if (rI m 1 7) < (rI m 1 6) then some (nI 0) else some (nI 3)) : Option (Int32)) fun (v7 : Int32) => some v7 else some (nI 2)
set_option maxRecDepth 20000 in
theorem w_44 {X : Nat × (Nat → Int32)} {d : Nat} {m : dM} {r : Int32} (hD : D44 m = some r) : ax_Ev X (d + 2) 44 [.ref 1] (stt m) (.inl (some (.int r))) (stt m) := by
  unfold D44 at hD
  show ax_Wp X (d + 1 + 1) 44 (0, [some (.ref 1)], []) (stt m) _
  refine ax_Wp.go (f' := (7, [some (.ref 1)], [.int (rI m 10 4)])) 3 rfl ?_
  refine ax_Wp.brD hD rfl (fun _ hD => ?_) (fun _ hD => ?_)
  · refine ax_Wp.go (f' := (34, [some (.ref 1)], [.ref 1, .ref 15])) 3 rfl ?_
    refine bnd hD (fun x1 hx hD => ?_)
    refine ax_Wp.callE (f' := (37, [some (.ref 1)], [.ref 15])) rfl rfl (w_42 (d := d + 0) hx) rfl ?_
    refine bnd hD (fun x2 hx hD => ?_)
    refine ax_Wp.callE (f' := (40, [some (.ref 1)], [])) rfl rfl (w_24 (d := d + 0) hx) rfl ?_
    refine ax_Wp.go (f' := (41, [some (.ref 1)], [.int (nI 3), .int x2])) 1 rfl ?_
    refine ax_Wp.brD hD rfl (fun _ hD => ?_) (fun _ hD => ?_)
    · refine ax_Wp.go (f' := (54, [some (.ref 1)], [.int (rI m 1 6), .int (rI m 1 7)])) 4 rfl ?_
      refine bnd hD (fun v3 hx hD => ?_)
      refine ax_Wp.jn (F := (62, [some (.ref 1)], [.int v3])) (hh := stt m) ?_ (fun kkv3 => ?_)
      · obtain rfl := inj hD
        exact ax_Wp.ret rfl ⟨rfl, rfl⟩
      clear hD
      have hD := hx
      clear hx
      refine ax_Wp.brD hD rfl (fun _ hD => ?_) (fun _ hD => ?_)
      · refine ax_Wp.go (f' := (62, [some (.ref 1)], [.int (nI 0)])) 1 rfl ?_
        obtain rfl := inj hD
        exact kkv3
      · refine ax_Wp.go (f' := (62, [some (.ref 1)], [.int (nI 3)])) 2 rfl ?_
        obtain rfl := inj hD
        exact kkv3
    · refine ax_Wp.go (f' := (45, [some (.ref 1)], [.int (nI 2)])) 1 rfl ?_
      obtain rfl := inj hD
      exact ax_Wp.ret rfl ⟨rfl, rfl⟩
  · refine ax_Wp.go (f' := (14, [some (.ref 1)], [.ref 10])) 2 rfl ?_
    refine bnd hD (fun x4 hx hD => ?_)
    refine ax_Wp.callE (f' := (17, [some (.ref 1)], [])) rfl rfl (w_35 (d := d + 0) hx) rfl ?_
    refine ax_Wp.go (f' := (24, [some (.ref 1)], [.int (rI m 10 4), .int x4])) 3 rfl ?_
    refine ax_Wp.brD hD rfl (fun _ hD => ?_) (fun _ hD => ?_)
    · refine ax_Wp.go (f' := (28, [some (.ref 1)], [.int (nI 1)])) 1 rfl ?_
      obtain rfl := inj hD
      exact ax_Wp.ret rfl ⟨rfl, rfl⟩
    · refine ax_Wp.go (f' := (34, [some (.ref 1)], [.ref 1, .ref 15])) 3 rfl ?_
      refine bnd hD (fun x5 hx hD => ?_)
      refine ax_Wp.callE (f' := (37, [some (.ref 1)], [.ref 15])) rfl rfl (w_42 (d := d + 0) hx) rfl ?_
      refine bnd hD (fun x6 hx hD => ?_)
      refine ax_Wp.callE (f' := (40, [some (.ref 1)], [])) rfl rfl (w_24 (d := d + 0) hx) rfl ?_
      refine ax_Wp.go (f' := (41, [some (.ref 1)], [.int (nI 3), .int x6])) 1 rfl ?_
      refine ax_Wp.brD hD rfl (fun _ hD => ?_) (fun _ hD => ?_)
      · refine ax_Wp.go (f' := (54, [some (.ref 1)], [.int (rI m 1 6), .int (rI m 1 7)])) 4 rfl ?_
        refine bnd hD (fun v7 hx hD => ?_)
        refine ax_Wp.jn (F := (62, [some (.ref 1)], [.int v7])) (hh := stt m) ?_ (fun kkv7 => ?_)
        · obtain rfl := inj hD
          exact ax_Wp.ret rfl ⟨rfl, rfl⟩
        clear hD
        have hD := hx
        clear hx
        refine ax_Wp.brD hD rfl (fun _ hD => ?_) (fun _ hD => ?_)
        · refine ax_Wp.go (f' := (62, [some (.ref 1)], [.int (nI 0)])) 1 rfl ?_
          obtain rfl := inj hD
          exact kkv7
        · refine ax_Wp.go (f' := (62, [some (.ref 1)], [.int (nI 3)])) 2 rfl ?_
          obtain rfl := inj hD
          exact kkv7
      · refine ax_Wp.go (f' := (45, [some (.ref 1)], [.int (nI 2)])) 1 rfl ?_
        obtain rfl := inj hD
        exact ax_Wp.ret rfl ⟨rfl, rfl⟩
def D51 (m : dM) (p0 : Int32) (p1 : Int32) : Option (Int32) := (D128 p0).bind fun (x1 : Int32) => if x1 = (nI 0) then some (nI 2) else (D59 m p1).bind fun (x2 : Int32) => if x2 = (nI 0) then some (nI 2) else (D44 m).bind fun (x3 : Int32) => if x3 = (nI 0) then (gI m 3 24 p1).bind fun (x4 : Int32) => (gI m 6 4 p0).bind fun (x5 : Int32) => if x4 = x5 then (D62 m p1).bind fun (x6 : Int32) => if x6 = (nI 0) then some (nI 3) else (D3 m p0).bind fun (x7 : Int32) => (D64 m p1 x7).bind fun (x8 : Int32) => Option.bind ((if x8 = (nI 0) then some (nI 4) else some (nI 0)) : Option (Int32)) fun (v9 : Int32) => some v9 else some (nI 2) else some (nI 1)
set_option maxRecDepth 20000 in
theorem w_51 {X : Nat × (Nat → Int32)} {d : Nat} {m : dM} {p0 : Int32} {p1 : Int32} {r : Int32} (hD : D51 m p0 p1 = some r) : ax_Ev X (d + 3) 51 [.ref 1, .int p0, .int p1] (stt m) (.inl (some (.int r))) (stt m) := by
  unfold D51 at hD
  show ax_Wp X (d + 2 + 1) 51 (0, [some (.ref 1), some (.int p0), some (.int p1)], []) (stt m) _
  refine ax_Wp.go (f' := (1, [some (.ref 1), some (.int p0), some (.int p1)], [.int p0])) 1 rfl ?_
  refine bnd hD (fun x1 hx hD => ?_)
  refine ax_Wp.callE (f' := (4, [some (.ref 1), some (.int p0), some (.int p1)], [])) rfl rfl (w_128 (d := d + 1) hx) rfl ?_
  refine ax_Wp.brD hD rfl (fun _ hD => ?_) (fun _ hD => ?_)
  · refine ax_Wp.go (f' := (19, [some (.ref 1), some (.int p0), some (.int p1)], [.int (nI 2)])) 1 rfl ?_
    obtain rfl := inj hD
    exact ax_Wp.ret rfl ⟨rfl, rfl⟩
  · refine ax_Wp.go (f' := (12, [some (.ref 1), some (.int p0), some (.int p1)], [.int p1, .ref 2])) 3 rfl ?_
    refine bnd hD (fun x2 hx hD => ?_)
    refine ax_Wp.callE (f' := (15, [some (.ref 1), some (.int p0), some (.int p1)], [])) rfl rfl (w_59 (d := d + 1) hx) rfl ?_
    refine ax_Wp.brD hD rfl (fun _ hD => ?_) (fun _ hD => ?_)
    · refine ax_Wp.go (f' := (19, [some (.ref 1), some (.int p0), some (.int p1)], [.int (nI 2)])) 1 rfl ?_
      obtain rfl := inj hD
      exact ax_Wp.ret rfl ⟨rfl, rfl⟩
    · refine ax_Wp.go (f' := (21, [some (.ref 1), some (.int p0), some (.int p1)], [.ref 1])) 1 rfl ?_
      refine bnd hD (fun x3 hx hD => ?_)
      refine ax_Wp.callE (f' := (24, [some (.ref 1), some (.int p0), some (.int p1)], [])) rfl rfl (w_44 (d := d + 0) hx) rfl ?_
      refine ax_Wp.brD hD rfl (fun _ hD => ?_) (fun _ hD => ?_)
      · refine ax_Wp.go (f' := (37, [some (.ref 1), some (.int p0), some (.int p1)], [.int p1, .ref 3])) 4 rfl ?_
        refine ax_Wp.rdI hD rfl rfl rfl (fun x4 hD => ?_)
        refine ax_Wp.go (f' := (46, [some (.ref 1), some (.int p0), some (.int p1)], [.int p0, .ref 6, .int x4])) 4 rfl ?_
        refine ax_Wp.rdI hD rfl rfl rfl (fun x5 hD => ?_)
        refine ax_Wp.brD hD rfl (fun _ hD => ?_) (fun _ hD => ?_)
        · refine ax_Wp.go (f' := (57, [some (.ref 1), some (.int p0), some (.int p1)], [.int p1, .ref 2])) 3 rfl ?_
          refine bnd hD (fun x6 hx hD => ?_)
          refine ax_Wp.callE (f' := (60, [some (.ref 1), some (.int p0), some (.int p1)], [])) rfl rfl (w_62 (d := d + 1) hx) rfl ?_
          refine ax_Wp.brD hD rfl (fun _ hD => ?_) (fun _ hD => ?_)
          · refine ax_Wp.go (f' := (64, [some (.ref 1), some (.int p0), some (.int p1)], [.int (nI 3)])) 1 rfl ?_
            obtain rfl := inj hD
            exact ax_Wp.ret rfl ⟨rfl, rfl⟩
          · refine ax_Wp.go (f' := (75, [some (.ref 1), some (.int p0), some (.int p1)], [.int p0, .ref 5, .int p1, .ref 2])) 6 rfl ?_
            refine bnd hD (fun x7 hx hD => ?_)
            refine ax_Wp.callE (f' := (78, [some (.ref 1), some (.int p0), some (.int p1)], [.int p1, .ref 2])) rfl rfl (w_3 (d := d + 1) hx) rfl ?_
            refine bnd hD (fun x8 hx hD => ?_)
            refine ax_Wp.callE (f' := (81, [some (.ref 1), some (.int p0), some (.int p1)], [])) rfl rfl (w_64 (d := d + 0) hx) rfl ?_
            refine bnd hD (fun v9 hx hD => ?_)
            refine ax_Wp.jn (F := (89, [some (.ref 1), none, none], [.int v9])) (hh := stt m) ?_ (fun kkv9 => ?_)
            · obtain rfl := inj hD
              exact ax_Wp.ret rfl ⟨rfl, rfl⟩
            clear hD
            have hD := hx
            clear hx
            refine ax_Wp.brD hD rfl (fun _ hD => ?_) (fun _ hD => ?_)
            · refine ax_Wp.go (f' := (89, [some (.ref 1), some (.int p0), some (.int p1)], [.int (nI 4)])) 1 rfl ?_
              obtain rfl := inj hD
              exact ax_Wp.dead kkv9 ⟨.inl rfl, ⟨.inr ⟨rfl, trivial⟩, ⟨.inr ⟨rfl, trivial⟩, trivial⟩⟩⟩
            · refine ax_Wp.go (f' := (89, [some (.ref 1), some (.int p0), some (.int p1)], [.int (nI 0)])) 2 rfl ?_
              obtain rfl := inj hD
              exact ax_Wp.dead kkv9 ⟨.inl rfl, ⟨.inr ⟨rfl, trivial⟩, ⟨.inr ⟨rfl, trivial⟩, trivial⟩⟩⟩
        · refine ax_Wp.go (f' := (51, [some (.ref 1), some (.int p0), some (.int p1)], [.int (nI 2)])) 1 rfl ?_
          obtain rfl := inj hD
          exact ax_Wp.ret rfl ⟨rfl, rfl⟩
      · refine ax_Wp.go (f' := (28, [some (.ref 1), some (.int p0), some (.int p1)], [.int (nI 1)])) 1 rfl ?_
        obtain rfl := inj hD
        exact ax_Wp.ret rfl ⟨rfl, rfl⟩
def D50 (m : dM) (p0 : Int32) (p1 : Int32) : Option (Int32 × dM) := (D128 p0).bind fun (x1 : Int32) => if x1 = (nI 0) then some ((-1), m) else (D59 m p1).bind fun (x2 : Int32) => if x2 = (nI 0) then some ((-1), m) else (sI m 7 4 p0 p1).bind fun (m3 : dM) => (gI m3 4 24 p1).bind fun (x4 : Int32) => some (x4, m3)
set_option maxRecDepth 20000 in
theorem w_50 {X : Nat × (Nat → Int32)} {d : Nat} {m : dM} {p0 : Int32} {p1 : Int32} {r : Int32 × dM} (hD : D50 m p0 p1 = some r) : ax_Ev X (d + 2) 50 [.ref 1, .int p0, .int p1] (stt m) (.inl (some (.int r.1))) (stt r.2) := by
  unfold D50 at hD
  show ax_Wp X (d + 1 + 1) 50 (0, [some (.ref 1), some (.int p0), some (.int p1)], []) (stt m) _
  refine ax_Wp.go (f' := (1, [some (.ref 1), some (.int p0), some (.int p1)], [.int p0])) 1 rfl ?_
  refine bnd hD (fun x1 hx hD => ?_)
  refine ax_Wp.callE (f' := (4, [some (.ref 1), some (.int p0), some (.int p1)], [])) rfl rfl (w_128 (d := d + 0) hx) rfl ?_
  refine ax_Wp.brD hD rfl (fun _ hD => ?_) (fun _ hD => ?_)
  · refine ax_Wp.go (f' := (19, [some (.ref 1), some (.int p0), some (.int p1)], [.int (-1)])) 1 rfl ?_
    obtain rfl := inj hD
    exact ax_Wp.ret rfl ⟨rfl, rfl⟩
  · refine ax_Wp.go (f' := (12, [some (.ref 1), some (.int p0), some (.int p1)], [.int p1, .ref 2])) 3 rfl ?_
    refine bnd hD (fun x2 hx hD => ?_)
    refine ax_Wp.callE (f' := (15, [some (.ref 1), some (.int p0), some (.int p1)], [])) rfl rfl (w_59 (d := d + 0) hx) rfl ?_
    refine ax_Wp.brD hD rfl (fun _ hD => ?_) (fun _ hD => ?_)
    · refine ax_Wp.go (f' := (19, [some (.ref 1), some (.int p0), some (.int p1)], [.int (-1)])) 1 rfl ?_
      obtain rfl := inj hD
      exact ax_Wp.ret rfl ⟨rfl, rfl⟩
    · refine ax_Wp.go (f' := (29, [some (.ref 1), some (.int p0), some (.int p1)], [.int p1, .int p0, .ref 7])) 5 rfl ?_
      refine ax_Wp.wrI hD rfl rfl (fun _ => rfl) (fun m3 hD => ?_)
      refine ax_Wp.go (f' := (38, [some (.ref 1), some (.int p0), some (.int p1)], [.int p1, .ref 4])) 4 rfl ?_
      refine ax_Wp.rdI hD rfl rfl rfl (fun x4 hD => ?_)
      obtain rfl := inj hD
      exact ax_Wp.ret rfl ⟨rfl, rfl⟩
def D77 (m : dM) (p0 : Int32) (p1 : Int32) : Option ((Int32 ⊕ Nat) × dM) := cT (D124 p0) m (fun (x1 : Unit) => cT (D126 m p1) m (fun (x4 : Unit) => (D51 m p0 p1).bind fun (x7 : Int32) => if x7 = (nI 0) then (D131 m).bind fun (r8 : dM) => (D50 r8 p0 p1).bind fun (r9 : Int32 × dM) => some (.inl r9.1, r9.2) else some (.inr 2, (bump m))) (fun (j5 : Nat) (m6 : dM) => some (.inr j5, m6))) (fun (j2 : Nat) (m3 : dM) => some (.inr j2, m3))
set_option maxRecDepth 20000 in
theorem w_77 {X : Nat × (Nat → Int32)} {d : Nat} {m : dM} {p0 : Int32} {p1 : Int32} {r : (Int32 ⊕ Nat) × dM} (hD : D77 m p0 p1 = some r) : ax_Ev X (d + 7) 77 [.ref 0, .int p0, .int p1] (stt m) (oT (fun x => some (.int x)) r.1) (stt r.2) := by
  unfold D77 at hD
  show ax_Wp X (d + 6 + 1) 77 (0, [some (.ref 0), some (.int p0), some (.int p1)], []) (stt m) _
  refine ax_Wp.go (f' := (1, [some (.ref 0), some (.int p0), some (.int p1)], [.int p0])) 1 rfl ?_
  refine cT.sp hD (fun x1 hx hD => ?_) (fun j2 hx hD => ?_)
  · refine ax_Wp.callE (f' := (4, [some (.ref 0), some (.int p0), some (.int p1)], [])) rfl rfl (w_124 (d := d + 0) hx) rfl ?_
    refine ax_Wp.go (f' := (6, [some (.ref 0), some (.int p0), some (.int p1)], [.int p1, .ref 0])) 2 rfl ?_
    refine cT.sp hD (fun x4 hx hD => ?_) (fun j5 hx hD => ?_)
    · refine ax_Wp.callE (f' := (9, [some (.ref 0), some (.int p0), some (.int p1)], [])) rfl rfl (w_126 (d := d + 0) hx) rfl ?_
      refine ax_Wp.go (f' := (15, [some (.ref 0), some (.int p0), some (.int p1)], [.int p1, .int p0, .ref 1])) 4 rfl ?_
      refine bnd hD (fun x7 hx hD => ?_)
      refine ax_Wp.callE (f' := (18, [some (.ref 0), some (.int p0), some (.int p1)], [])) rfl rfl (w_51 (d := d + 3) hx) rfl ?_
      refine ax_Wp.brD hD rfl (fun _ hD => ?_) (fun _ hD => ?_)
      · refine ax_Wp.go (f' := (32, [some (.ref 0), some (.int p0), some (.int p1)], [.ref 0])) 1 rfl ?_
        refine bnd hD (fun r8 hx hD => ?_)
        refine ax_Wp.callE (f' := (35, [some (.ref 0), some (.int p0), some (.int p1)], [])) rfl rfl (w_131 (d := d + 3) hx) rfl ?_
        refine ax_Wp.go (f' := (41, [some (.ref 0), some (.int p0), some (.int p1)], [.int p1, .int p0, .ref 1])) 4 rfl ?_
        refine bnd hD (fun r9 hx hD => ?_)
        refine ax_Wp.callE (f' := (44, [some (.ref 0), some (.int p0), some (.int p1)], [])) rfl rfl (w_50 (d := d + 4) hx) rfl ?_
        obtain rfl := inj hD
        exact ax_Wp.ret rfl ⟨rfl, rfl⟩
      · obtain rfl := inj hD
        exact ax_Wp.thr rfl (ax_six _ rfl) ⟨rfl, rfl⟩
    · obtain rfl := inj hD
      exact ax_Wp.callX (f' := (9, [some (.ref 0), some (.int p0), some (.int p1)], [])) rfl rfl (w_126 (d := d + 0) hx) rfl ⟨rfl, rfl⟩
  · obtain rfl := inj hD
    exact ax_Wp.callX (f' := (4, [some (.ref 0), some (.int p0), some (.int p1)], [])) rfl rfl (w_124 (d := d + 0) hx) rfl ⟨rfl, rfl⟩
def D252 (m : dM) (p0 : Int32) (p1 : Int32) : Option (Int32 × dM) := cG (D77 m p0 p1) (fun (x1 : Int32) (m4 : dM) => (sL m4 138 1 (nI 0) x1.toInt64).bind fun (m5 : dM) => some (nI 0, m5)) (fun (j2 : Nat) (m3 : dM) => if j2 = 0 then some (nI 1, m3) else if j2 = 2 then some (nI 2, m3) else none)
set_option maxRecDepth 20000 in
theorem w_252 {X : Nat × (Nat → Int32)} {d : Nat} {m : dM} {p0 : Int32} {p1 : Int32} {r : Int32 × dM} (hD : D252 m p0 p1 = some r) : ax_Ev X (d + 8) 252 [.ref 0, .int p0, .int p1, .ref 138] (stt m) (.inl (some (.int r.1))) (stt r.2) := by
  unfold D252 at hD
  show ax_Wp X (d + 7 + 1) 252 (0, [some (.ref 0), some (.int p0), some (.int p1), some (.ref 138), none], []) (stt m) _
  refine ax_Wp.go (f' := (5, [some (.ref 0), some (.int p0), some (.int p1), some (.ref 138), none], [.int p1, .int p0, .ref 0, .int (nI 0), .ref 138])) 5 rfl ?_
  refine cG.sp hD (fun x1 m4 hx hD => ?_) (fun j2 m3 hx hD => ?_)
  · refine ax_Wp.callE (f' := (8, [some (.ref 0), some (.int p0), some (.int p1), some (.ref 138), none], [.int (nI 0), .ref 138])) rfl rfl (w_77 (d := d + 0) hx) rfl ?_
    refine ax_Wp.go (f' := (9, [some (.ref 0), some (.int p0), some (.int p1), some (.ref 138), none], [.long x1.toInt64, .int (nI 0), .ref 138])) 1 rfl ?_
    refine ax_Wp.wrL hD rfl rfl (fun _ => rfl) (fun m5 hD => ?_)
    refine ax_Wp.go (f' := (22, [some (.ref 0), some (.int p0), some (.int p1), some (.ref 138), none], [.int (nI 0)])) 2 rfl ?_
    obtain rfl := inj hD
    exact ax_Wp.ret rfl ⟨rfl, rfl⟩
  · refine swD hD (fun e hD => ?_) (fun _ hD => ?_)
    · cases e
      refine ax_Wp.callH (f' := (8, [some (.ref 0), some (.int p0), some (.int p1), some (.ref 138), none], [.int (nI 0), .ref 138])) (pc2 := 15) (i := 4) rfl rfl (w_77 (d := d + 0) hx) rfl rfl rfl ?_
      refine ax_Wp.go (f' := (16, [some (.ref 0), some (.int p0), some (.int p1), some (.ref 138), none], [.int (nI 1)])) 1 rfl ?_
      obtain rfl := inj hD
      exact ax_Wp.ret rfl ⟨rfl, rfl⟩
    refine swD hD (fun e hD => ?_) (fun _ hD => ?_)
    · cases e
      refine ax_Wp.callH (f' := (8, [some (.ref 0), some (.int p0), some (.int p1), some (.ref 138), none], [.int (nI 0), .ref 138])) (pc2 := 19) (i := 4) rfl rfl (w_77 (d := d + 0) hx) rfl rfl rfl ?_
      refine ax_Wp.go (f' := (20, [some (.ref 0), some (.int p0), some (.int p1), some (.ref 138), none], [.int (nI 2)])) 1 rfl ?_
      obtain rfl := inj hD
      exact ax_Wp.ret rfl ⟨rfl, rfl⟩
    cases hD
def D78 (m : dM) (p0 : Int32) : Option ((Int32 ⊕ Nat) × dM) := cT (D124 p0) m (fun (x1 : Unit) => (D131 m).bind fun (r4 : dM) => (D4 r4 p0).bind fun (r5 : Int32 × dM) => (gB r5.1).bind fun (b6 : Int32) => some (.inl b6, r5.2)) (fun (j2 : Nat) (m3 : dM) => some (.inr j2, m3))
set_option maxRecDepth 20000 in
theorem w_78 {X : Nat × (Nat → Int32)} {d : Nat} {m : dM} {p0 : Int32} {r : (Int32 ⊕ Nat) × dM} (hD : D78 m p0 = some r) : ax_Ev X (d + 7) 78 [.ref 0, .int p0] (stt m) (oT (fun x => some (.int x)) r.1) (stt r.2) := by
  unfold D78 at hD
  show ax_Wp X (d + 6 + 1) 78 (0, [some (.ref 0), some (.int p0)], []) (stt m) _
  refine ax_Wp.go (f' := (1, [some (.ref 0), some (.int p0)], [.int p0])) 1 rfl ?_
  refine cT.sp hD (fun x1 hx hD => ?_) (fun j2 hx hD => ?_)
  · refine ax_Wp.callE (f' := (4, [some (.ref 0), some (.int p0)], [])) rfl rfl (w_124 (d := d + 0) hx) rfl ?_
    refine ax_Wp.go (f' := (5, [some (.ref 0), some (.int p0)], [.ref 0])) 1 rfl ?_
    refine bnd hD (fun r4 hx hD => ?_)
    refine ax_Wp.callE (f' := (8, [some (.ref 0), some (.int p0)], [])) rfl rfl (w_131 (d := d + 3) hx) rfl ?_
    refine ax_Wp.go (f' := (16, [some (.ref 0), some (.int p0)], [.int p0, .ref 5])) 4 rfl ?_
    refine bnd hD (fun r5 hx hD => ?_)
    refine ax_Wp.callE (f' := (19, [some (.ref 0), some (.int p0)], [])) rfl rfl (w_4 (d := d + 4) hx) rfl ?_
    refine ax_Wp.retB hD rfl (fun b6 hD => ?_)
    obtain rfl := inj hD
    exact ⟨rfl, rfl⟩
  · obtain rfl := inj hD
    exact ax_Wp.callX (f' := (4, [some (.ref 0), some (.int p0)], [])) rfl rfl (w_124 (d := d + 0) hx) rfl ⟨rfl, rfl⟩
def D253 (m : dM) (p0 : Int32) : Option (Int32 × dM) := cG (D78 m p0) (fun (x1 : Int32) (m4 : dM) => Option.bind ((if x1 = (nI 0) then some (0 : Int64) else some (1 : Int64)) : Option (Int64)) fun (v5 : Int64) => (sL m4 138 1 (nI 0) v5).bind fun (m6 : dM) => some (nI 0, m6)) (fun (j2 : Nat) (m3 : dM) => if j2 = 0 then some (nI 1, m3) else none)
set_option maxRecDepth 20000 in
theorem w_253 {X : Nat × (Nat → Int32)} {d : Nat} {m : dM} {p0 : Int32} {r : Int32 × dM} (hD : D253 m p0 = some r) : ax_Ev X (d + 8) 253 [.ref 0, .int p0, .ref 138] (stt m) (.inl (some (.int r.1))) (stt r.2) := by
  unfold D253 at hD
  show ax_Wp X (d + 7 + 1) 253 (0, [some (.ref 0), some (.int p0), some (.ref 138), none], []) (stt m) _
  refine ax_Wp.go (f' := (4, [some (.ref 0), some (.int p0), some (.ref 138), none], [.int p0, .ref 0, .int (nI 0), .ref 138])) 4 rfl ?_
  refine cG.sp hD (fun x1 m4 hx hD => ?_) (fun j2 m3 hx hD => ?_)
  · refine ax_Wp.callE (f' := (7, [some (.ref 0), some (.int p0), some (.ref 138), none], [.int (nI 0), .ref 138])) rfl rfl (w_78 (d := d + 0) hx) rfl ?_
    refine bnd hD (fun v5 hx hD => ?_)
    refine ax_Wp.jn (F := (15, [some (.ref 0), none, some (.ref 138), none], [.long v5, .int (nI 0), .ref 138])) (hh := stt m4) ?_ (fun kkv5 => ?_)
    · refine ax_Wp.wrL hD rfl rfl (fun _ => rfl) (fun m6 hD => ?_)
      refine ax_Wp.go (f' := (23, [some (.ref 0), none, some (.ref 138), none], [.int (nI 0)])) 2 rfl ?_
      obtain rfl := inj hD
      exact ax_Wp.ret rfl ⟨rfl, rfl⟩
    clear hD
    have hD := hx
    clear hx
    refine ax_Wp.brD hD rfl (fun _ hD => ?_) (fun _ hD => ?_)
    · refine ax_Wp.go (f' := (15, [some (.ref 0), some (.int p0), some (.ref 138), none], [.long (0 : Int64), .int (nI 0), .ref 138])) 1 rfl ?_
      obtain rfl := inj hD
      exact ax_Wp.dead kkv5 ⟨.inl rfl, ⟨.inr ⟨rfl, trivial⟩, ⟨.inl rfl, ⟨.inl rfl, trivial⟩⟩⟩⟩
    · refine ax_Wp.go (f' := (15, [some (.ref 0), some (.int p0), some (.ref 138), none], [.long (1 : Int64), .int (nI 0), .ref 138])) 2 rfl ?_
      obtain rfl := inj hD
      exact ax_Wp.dead kkv5 ⟨.inl rfl, ⟨.inr ⟨rfl, trivial⟩, ⟨.inl rfl, ⟨.inl rfl, trivial⟩⟩⟩⟩
  · refine swD hD (fun e hD => ?_) (fun _ hD => ?_)
    · cases e
      refine ax_Wp.callH (f' := (7, [some (.ref 0), some (.int p0), some (.ref 138), none], [.int (nI 0), .ref 138])) (pc2 := 20) (i := 3) rfl rfl (w_78 (d := d + 0) hx) rfl rfl rfl ?_
      refine ax_Wp.go (f' := (21, [some (.ref 0), some (.int p0), some (.ref 138), none], [.int (nI 1)])) 1 rfl ?_
      obtain rfl := inj hD
      exact ax_Wp.ret rfl ⟨rfl, rfl⟩
    cases hD
def D9 (m : dM) (p0 : Int32) (p1 : Int32) (p2 : Int32) (p3 : Int32) : Option (Int32) := Option.bind (lp (β := Int32 × Int32 × Int32 × Int32) 3000 (fun (s1 : Int32 × Int32 × Int32 × Int32 × Int32) => if (nI 4) ≤ s1.2.2.2.2 then some (.inr (s1.1, s1.2.1, s1.2.2.1, s1.2.2.2.1)) else Option.bind ((if s1.2.2.2.2 = p0 then some (s1.1, s1.2.1, s1.2.2.1, s1.2.2.2.1) else (gI m 40 4 s1.2.2.2.2).bind fun (x4 : Int32) => if x4 = (nI 0) then (gI m 38 4 s1.2.2.2.2).bind fun (x5 : Int32) => if x5 = p2 then Option.bind ((if s1.2.1 = (nI 0) then (gI m 39 4 s1.2.2.2.2).bind fun (x7 : Int32) => if x7 ≤ p3 then some (nI 0) else some (nI 1) else some (nI 1)) : Option (Int32)) fun (v6 : Int32) => Option.bind ((if s1.2.2.1 = (nI 0) then (gI m 39 4 s1.2.2.2.2).bind fun (x9 : Int32) => if x9 = p3 then some (nI 1) else some (nI 0) else some (nI 1)) : Option (Int32)) fun (v8 : Int32) => some (s1.1, v6, v8, s1.2.2.2.1) else Option.bind ((if s1.1 = (nI 0) then (gI m 38 4 s1.2.2.2.2).bind fun (x11 : Int32) => if x11 = p1 then (gI m 37 4 s1.2.2.2.2).bind fun (x12 : Int32) => if x12 = p2 then some (nI 1) else some (nI 0) else some (nI 0) else some (nI 1)) : Option (Int32)) fun (v10 : Int32) => some (v10, s1.2.1, s1.2.2.1, s1.2.2.2.1) else Option.bind ((if s1.2.2.2.1 = (nI 0) then (gI m 37 4 s1.2.2.2.2).bind fun (x14 : Int32) => if x14 = p2 then some (nI 1) else some (nI 0) else some (nI 1)) : Option (Int32)) fun (v13 : Int32) => some (s1.1, s1.2.1, s1.2.2.1, v13)) : Option (Int32 × Int32 × Int32 × Int32)) fun (v3 : Int32 × Int32 × Int32 × Int32) => some (.inl (v3.1, v3.2.1, v3.2.2.1, v3.2.2.2, s1.2.2.2.2 + (nI 1)))) (nI 0, nI 0, nI 0, nI 0, nI 0)) fun (v2 : Int32 × Int32 × Int32 × Int32) => if v2.1 = (nI 0) then if v2.2.1 = (nI 0) then if v2.2.2.1 = (nI 0) then Option.bind ((if v2.2.2.2 = (nI 0) then some (nI 0) else some (nI 5)) : Option (Int32)) fun (v15 : Int32) => some v15 else some (nI 4) else some (nI 3) else some (nI 2)
set_option maxRecDepth 20000 in
theorem w_9 {X : Nat × (Nat → Int32)} {d : Nat} {m : dM} {p0 : Int32} {p1 : Int32} {p2 : Int32} {p3 : Int32} {r : Int32} (hD : D9 m p0 p1 p2 p3 = some r) : ax_Ev X (d + 1) 9 [.ref 36, .int p0, .int p1, .int p2, .int p3] (stt m) (.inl (some (.int r))) (stt m) := by
  unfold D9 at hD
  show ax_Wp X (d + 0 + 1) 9 (0, [some (.ref 36), some (.int p0), some (.int p1), some (.int p2), some (.int p3), none, none, none, none, none], []) (stt m) _
  refine ax_Wp.go (f' := (15, [some (.ref 36), some (.int p0), some (.int p1), some (.int p2), some (.int p3), some (.int (nI 0)), some (.int (nI 0)), some (.int (nI 0)), some (.int (nI 0)), some (.int (nI 0))], [])) 10 rfl ?_
  refine bnd hD (fun v2 hx hD => ?_)
  refine ax_Wp.jn (F := (168, [some (.ref 36), none, none, none, none, some (.int v2.1), some (.int v2.2.1), some (.int v2.2.2.1), some (.int v2.2.2.2), none], [])) (hh := stt m) ?_ (fun kkv2 => ?_)
  · refine ax_Wp.go (f' := (170, [some (.ref 36), none, none, none, none, some (.int v2.1), some (.int v2.2.1), some (.int v2.2.2.1), some (.int v2.2.2.2), none], [.int v2.1])) 1 rfl ?_
    refine ax_Wp.brD hD rfl (fun _ hD => ?_) (fun _ hD => ?_)
    · refine ax_Wp.go (f' := (177, [some (.ref 36), none, none, none, none, some (.int v2.1), some (.int v2.2.1), some (.int v2.2.2.1), some (.int v2.2.2.2), none], [.int v2.2.1])) 1 rfl ?_
      refine ax_Wp.brD hD rfl (fun _ hD => ?_) (fun _ hD => ?_)
      · refine ax_Wp.go (f' := (184, [some (.ref 36), none, none, none, none, some (.int v2.1), some (.int v2.2.1), some (.int v2.2.2.1), some (.int v2.2.2.2), none], [.int v2.2.2.1])) 1 rfl ?_
        refine ax_Wp.brD hD rfl (fun _ hD => ?_) (fun _ hD => ?_)
        · refine ax_Wp.go (f' := (191, [some (.ref 36), none, none, none, none, some (.int v2.1), some (.int v2.2.1), some (.int v2.2.2.1), some (.int v2.2.2.2), none], [.int v2.2.2.2])) 1 rfl ?_
          refine bnd hD (fun v15 hx hD => ?_)
          refine ax_Wp.jn (F := (199, [some (.ref 36), none, none, none, none, none, none, none, none, none], [.int v15])) (hh := stt m) ?_ (fun kkv15 => ?_)
          · obtain rfl := inj hD
            exact ax_Wp.ret rfl ⟨rfl, rfl⟩
          clear hD
          have hD := hx
          clear hx
          refine ax_Wp.brD hD rfl (fun _ hD => ?_) (fun _ hD => ?_)
          · refine ax_Wp.go (f' := (199, [some (.ref 36), none, none, none, none, some (.int v2.1), some (.int v2.2.1), some (.int v2.2.2.1), some (.int v2.2.2.2), none], [.int (nI 0)])) 1 rfl ?_
            obtain rfl := inj hD
            exact ax_Wp.dead kkv15 ⟨.inl rfl, ⟨.inl rfl, ⟨.inl rfl, ⟨.inl rfl, ⟨.inl rfl, ⟨.inr ⟨rfl, trivial⟩, ⟨.inr ⟨rfl, trivial⟩, ⟨.inr ⟨rfl, trivial⟩, ⟨.inr ⟨rfl, trivial⟩, ⟨.inl rfl, trivial⟩⟩⟩⟩⟩⟩⟩⟩⟩⟩
          · refine ax_Wp.go (f' := (199, [some (.ref 36), none, none, none, none, some (.int v2.1), some (.int v2.2.1), some (.int v2.2.2.1), some (.int v2.2.2.2), none], [.int (nI 5)])) 2 rfl ?_
            obtain rfl := inj hD
            exact ax_Wp.dead kkv15 ⟨.inl rfl, ⟨.inl rfl, ⟨.inl rfl, ⟨.inl rfl, ⟨.inl rfl, ⟨.inr ⟨rfl, trivial⟩, ⟨.inr ⟨rfl, trivial⟩, ⟨.inr ⟨rfl, trivial⟩, ⟨.inr ⟨rfl, trivial⟩, ⟨.inl rfl, trivial⟩⟩⟩⟩⟩⟩⟩⟩⟩⟩
        · refine ax_Wp.go (f' := (188, [some (.ref 36), none, none, none, none, some (.int v2.1), some (.int v2.2.1), some (.int v2.2.2.1), some (.int v2.2.2.2), none], [.int (nI 4)])) 1 rfl ?_
          obtain rfl := inj hD
          exact ax_Wp.ret rfl ⟨rfl, rfl⟩
      · refine ax_Wp.go (f' := (181, [some (.ref 36), none, none, none, none, some (.int v2.1), some (.int v2.2.1), some (.int v2.2.2.1), some (.int v2.2.2.2), none], [.int (nI 3)])) 1 rfl ?_
        obtain rfl := inj hD
        exact ax_Wp.ret rfl ⟨rfl, rfl⟩
    · refine ax_Wp.go (f' := (174, [some (.ref 36), none, none, none, none, some (.int v2.1), some (.int v2.2.1), some (.int v2.2.2.1), some (.int v2.2.2.2), none], [.int (nI 2)])) 1 rfl ?_
      obtain rfl := inj hD
      exact ax_Wp.ret rfl ⟨rfl, rfl⟩
  clear hD
  refine ax_Wp.lpD (fun (s1 : Int32 × Int32 × Int32 × Int32 × Int32) => ((15, [some (.ref 36), some (.int p0), some (.int p1), some (.int p2), some (.int p3), some (.int s1.1), some (.int s1.2.1), some (.int s1.2.2.1), some (.int s1.2.2.2.1), some (.int s1.2.2.2.2)], []), stt m)) ?_ hx
  clear hx
  intro s1 v hD ks1
  refine ax_Wp.go (f' := (18, [some (.ref 36), some (.int p0), some (.int p1), some (.int p2), some (.int p3), some (.int s1.1), some (.int s1.2.1), some (.int s1.2.2.1), some (.int s1.2.2.2.1), some (.int s1.2.2.2.2)], [.int (nI 4), .int s1.2.2.2.2])) 2 rfl ?_
  refine ax_Wp.brD hD rfl (fun _ hD => ?_) (fun _ hD => ?_)
  · obtain rfl := inj hD
    obtain rfl := ks1.o
    exact ax_Wp.dead kkv2 ⟨.inl rfl, ⟨.inr ⟨rfl, trivial⟩, ⟨.inr ⟨rfl, trivial⟩, ⟨.inr ⟨rfl, trivial⟩, ⟨.inr ⟨rfl, trivial⟩, ⟨.inl rfl, ⟨.inl rfl, ⟨.inl rfl, ⟨.inl rfl, ⟨.inr ⟨rfl, trivial⟩, trivial⟩⟩⟩⟩⟩⟩⟩⟩⟩⟩
  · refine ax_Wp.go (f' := (24, [some (.ref 36), some (.int p0), some (.int p1), some (.int p2), some (.int p3), some (.int s1.1), some (.int s1.2.1), some (.int s1.2.2.1), some (.int s1.2.2.2.1), some (.int s1.2.2.2.2)], [.int p0, .int s1.2.2.2.2])) 2 rfl ?_
    refine bnd hD (fun v3 hx hD => ?_)
    refine ax_Wp.jn (F := (162, [some (.ref 36), some (.int p0), some (.int p1), some (.int p2), some (.int p3), some (.int v3.1), some (.int v3.2.1), some (.int v3.2.2.1), some (.int v3.2.2.2), some (.int s1.2.2.2.2)], [])) (hh := stt m) ?_ (fun kkv3 => ?_)
    · refine ax_Wp.go (f' := (15, [some (.ref 36), some (.int p0), some (.int p1), some (.int p2), some (.int p3), some (.int v3.1), some (.int v3.2.1), some (.int v3.2.2.1), some (.int v3.2.2.2), some (.int (s1.2.2.2.2 + (nI 1)))], [])) 2 rfl ?_
      obtain rfl := inj hD
      exact ks1.i
    clear hD
    have hD := hx
    clear hx
    refine ax_Wp.brD hD rfl (fun _ hD => ?_) (fun _ hD => ?_)
    · refine ax_Wp.go (f' := (162, [some (.ref 36), some (.int p0), some (.int p1), some (.int p2), some (.int p3), some (.int s1.1), some (.int s1.2.1), some (.int s1.2.2.1), some (.int s1.2.2.2.1), some (.int s1.2.2.2.2)], [])) 1 rfl ?_
      obtain rfl := inj hD
      exact kkv3
    · refine ax_Wp.go (f' := (36, [some (.ref 36), some (.int p0), some (.int p1), some (.int p2), some (.int p3), some (.int s1.1), some (.int s1.2.1), some (.int s1.2.2.1), some (.int s1.2.2.2.1), some (.int s1.2.2.2.2)], [.int s1.2.2.2.2, .ref 40])) 3 rfl ?_
      refine ax_Wp.rdI hD rfl rfl rfl (fun x4 hD => ?_)
      refine ax_Wp.brD hD rfl (fun _ hD => ?_) (fun _ hD => ?_)
      · refine ax_Wp.go (f' := (72, [some (.ref 36), some (.int p0), some (.int p1), some (.int p2), some (.int p3), some (.int s1.1), some (.int s1.2.1), some (.int s1.2.2.1), some (.int s1.2.2.2.1), some (.int s1.2.2.2.2)], [.int s1.2.2.2.2, .ref 38])) 3 rfl ?_
        refine ax_Wp.rdI hD rfl rfl rfl (fun x5 hD => ?_)
        refine ax_Wp.go (f' := (74, [some (.ref 36), some (.int p0), some (.int p1), some (.int p2), some (.int p3), some (.int s1.1), some (.int s1.2.1), some (.int s1.2.2.1), some (.int s1.2.2.2.1), some (.int s1.2.2.2.2)], [.int p2, .int x5])) 1 rfl ?_
        refine ax_Wp.brD hD rfl (fun _ hD => ?_) (fun _ hD => ?_)
        · refine ax_Wp.go (f' := (79, [some (.ref 36), some (.int p0), some (.int p1), some (.int p2), some (.int p3), some (.int s1.1), some (.int s1.2.1), some (.int s1.2.2.1), some (.int s1.2.2.2.1), some (.int s1.2.2.2.2)], [.int s1.2.1])) 1 rfl ?_
          refine bnd hD (fun v6 hx hD => ?_)
          refine ax_Wp.jn (F := (99, [some (.ref 36), some (.int p0), some (.int p1), some (.int p2), some (.int p3), some (.int s1.1), none, some (.int s1.2.2.1), some (.int s1.2.2.2.1), some (.int s1.2.2.2.2)], [.int v6])) (hh := stt m) ?_ (fun kkv6 => ?_)
          · refine ax_Wp.go (f' := (103, [some (.ref 36), some (.int p0), some (.int p1), some (.int p2), some (.int p3), some (.int s1.1), some (.int v6), some (.int s1.2.2.1), some (.int s1.2.2.2.1), some (.int s1.2.2.2.2)], [.int s1.2.2.1])) 2 rfl ?_
            refine bnd hD (fun v8 hx hD => ?_)
            refine ax_Wp.jn (F := (123, [some (.ref 36), some (.int p0), some (.int p1), some (.int p2), some (.int p3), some (.int s1.1), some (.int v6), none, some (.int s1.2.2.2.1), some (.int s1.2.2.2.2)], [.int v8])) (hh := stt m) ?_ (fun kkv8 => ?_)
            · refine ax_Wp.go (f' := (162, [some (.ref 36), some (.int p0), some (.int p1), some (.int p2), some (.int p3), some (.int s1.1), some (.int v6), some (.int v8), some (.int s1.2.2.2.1), some (.int s1.2.2.2.2)], [])) 2 rfl ?_
              obtain rfl := inj hD
              exact kkv3
            clear hD
            have hD := hx
            clear hx
            refine ax_Wp.brD hD rfl (fun _ hD => ?_) (fun _ hD => ?_)
            · refine ax_Wp.go (f' := (112, [some (.ref 36), some (.int p0), some (.int p1), some (.int p2), some (.int p3), some (.int s1.1), some (.int v6), some (.int s1.2.2.1), some (.int s1.2.2.2.1), some (.int s1.2.2.2.2)], [.int s1.2.2.2.2, .ref 39])) 3 rfl ?_
              refine ax_Wp.rdI hD rfl rfl rfl (fun x9 hD => ?_)
              refine ax_Wp.go (f' := (115, [some (.ref 36), some (.int p0), some (.int p1), some (.int p2), some (.int p3), some (.int s1.1), some (.int v6), some (.int s1.2.2.1), some (.int s1.2.2.2.1), some (.int s1.2.2.2.2)], [.int p3, .int x9])) 1 rfl ?_
              refine ax_Wp.brD hD rfl (fun _ hD => ?_) (fun _ hD => ?_)
              · refine ax_Wp.go (f' := (123, [some (.ref 36), some (.int p0), some (.int p1), some (.int p2), some (.int p3), some (.int s1.1), some (.int v6), some (.int s1.2.2.1), some (.int s1.2.2.2.1), some (.int s1.2.2.2.2)], [.int (nI 1)])) 2 rfl ?_
                obtain rfl := inj hD
                exact ax_Wp.dead kkv8 ⟨.inl rfl, ⟨.inl rfl, ⟨.inl rfl, ⟨.inl rfl, ⟨.inl rfl, ⟨.inl rfl, ⟨.inl rfl, ⟨.inr ⟨rfl, trivial⟩, ⟨.inl rfl, ⟨.inl rfl, trivial⟩⟩⟩⟩⟩⟩⟩⟩⟩⟩
              · refine ax_Wp.go (f' := (123, [some (.ref 36), some (.int p0), some (.int p1), some (.int p2), some (.int p3), some (.int s1.1), some (.int v6), some (.int s1.2.2.1), some (.int s1.2.2.2.1), some (.int s1.2.2.2.2)], [.int (nI 0)])) 1 rfl ?_
                obtain rfl := inj hD
                exact ax_Wp.dead kkv8 ⟨.inl rfl, ⟨.inl rfl, ⟨.inl rfl, ⟨.inl rfl, ⟨.inl rfl, ⟨.inl rfl, ⟨.inl rfl, ⟨.inr ⟨rfl, trivial⟩, ⟨.inl rfl, ⟨.inl rfl, trivial⟩⟩⟩⟩⟩⟩⟩⟩⟩⟩
            · refine ax_Wp.go (f' := (123, [some (.ref 36), some (.int p0), some (.int p1), some (.int p2), some (.int p3), some (.int s1.1), some (.int v6), some (.int s1.2.2.1), some (.int s1.2.2.2.1), some (.int s1.2.2.2.2)], [.int (nI 1)])) 2 rfl ?_
              obtain rfl := inj hD
              exact ax_Wp.dead kkv8 ⟨.inl rfl, ⟨.inl rfl, ⟨.inl rfl, ⟨.inl rfl, ⟨.inl rfl, ⟨.inl rfl, ⟨.inl rfl, ⟨.inr ⟨rfl, trivial⟩, ⟨.inl rfl, ⟨.inl rfl, trivial⟩⟩⟩⟩⟩⟩⟩⟩⟩⟩
          clear hD
          have hD := hx
          clear hx
          refine ax_Wp.brD hD rfl (fun _ hD => ?_) (fun _ hD => ?_)
          · refine ax_Wp.go (f' := (88, [some (.ref 36), some (.int p0), some (.int p1), some (.int p2), some (.int p3), some (.int s1.1), some (.int s1.2.1), some (.int s1.2.2.1), some (.int s1.2.2.2.1), some (.int s1.2.2.2.2)], [.int s1.2.2.2.2, .ref 39])) 3 rfl ?_
            refine ax_Wp.rdI hD rfl rfl rfl (fun x7 hD => ?_)
            refine ax_Wp.go (f' := (91, [some (.ref 36), some (.int p0), some (.int p1), some (.int p2), some (.int p3), some (.int s1.1), some (.int s1.2.1), some (.int s1.2.2.1), some (.int s1.2.2.2.1), some (.int s1.2.2.2.2)], [.int p3, .int x7])) 1 rfl ?_
            refine ax_Wp.brD hD rfl (fun _ hD => ?_) (fun _ hD => ?_)
            · refine ax_Wp.go (f' := (99, [some (.ref 36), some (.int p0), some (.int p1), some (.int p2), some (.int p3), some (.int s1.1), some (.int s1.2.1), some (.int s1.2.2.1), some (.int s1.2.2.2.1), some (.int s1.2.2.2.2)], [.int (nI 0)])) 1 rfl ?_
              obtain rfl := inj hD
              exact ax_Wp.dead kkv6 ⟨.inl rfl, ⟨.inl rfl, ⟨.inl rfl, ⟨.inl rfl, ⟨.inl rfl, ⟨.inl rfl, ⟨.inr ⟨rfl, trivial⟩, ⟨.inl rfl, ⟨.inl rfl, ⟨.inl rfl, trivial⟩⟩⟩⟩⟩⟩⟩⟩⟩⟩
            · refine ax_Wp.go (f' := (99, [some (.ref 36), some (.int p0), some (.int p1), some (.int p2), some (.int p3), some (.int s1.1), some (.int s1.2.1), some (.int s1.2.2.1), some (.int s1.2.2.2.1), some (.int s1.2.2.2.2)], [.int (nI 1)])) 2 rfl ?_
              obtain rfl := inj hD
              exact ax_Wp.dead kkv6 ⟨.inl rfl, ⟨.inl rfl, ⟨.inl rfl, ⟨.inl rfl, ⟨.inl rfl, ⟨.inl rfl, ⟨.inr ⟨rfl, trivial⟩, ⟨.inl rfl, ⟨.inl rfl, ⟨.inl rfl, trivial⟩⟩⟩⟩⟩⟩⟩⟩⟩⟩
          · refine ax_Wp.go (f' := (99, [some (.ref 36), some (.int p0), some (.int p1), some (.int p2), some (.int p3), some (.int s1.1), some (.int s1.2.1), some (.int s1.2.2.1), some (.int s1.2.2.2.1), some (.int s1.2.2.2.2)], [.int (nI 1)])) 2 rfl ?_
            obtain rfl := inj hD
            exact ax_Wp.dead kkv6 ⟨.inl rfl, ⟨.inl rfl, ⟨.inl rfl, ⟨.inl rfl, ⟨.inl rfl, ⟨.inl rfl, ⟨.inr ⟨rfl, trivial⟩, ⟨.inl rfl, ⟨.inl rfl, ⟨.inl rfl, trivial⟩⟩⟩⟩⟩⟩⟩⟩⟩⟩
        · refine ax_Wp.go (f' := (130, [some (.ref 36), some (.int p0), some (.int p1), some (.int p2), some (.int p3), some (.int s1.1), some (.int s1.2.1), some (.int s1.2.2.1), some (.int s1.2.2.2.1), some (.int s1.2.2.2.2)], [.int s1.1])) 1 rfl ?_
          refine bnd hD (fun v10 hx hD => ?_)
          refine ax_Wp.jn (F := (160, [some (.ref 36), some (.int p0), some (.int p1), some (.int p2), some (.int p3), none, some (.int s1.2.1), some (.int s1.2.2.1), some (.int s1.2.2.2.1), some (.int s1.2.2.2.2)], [.int v10])) (hh := stt m) ?_ (fun kkv10 => ?_)
          · refine ax_Wp.go (f' := (162, [some (.ref 36), some (.int p0), some (.int p1), some (.int p2), some (.int p3), some (.int v10), some (.int s1.2.1), some (.int s1.2.2.1), some (.int s1.2.2.2.1), some (.int s1.2.2.2.2)], [])) 1 rfl ?_
            obtain rfl := inj hD
            exact kkv3
          clear hD
          have hD := hx
          clear hx
          refine ax_Wp.brD hD rfl (fun _ hD => ?_) (fun _ hD => ?_)
          · refine ax_Wp.go (f' := (139, [some (.ref 36), some (.int p0), some (.int p1), some (.int p2), some (.int p3), some (.int s1.1), some (.int s1.2.1), some (.int s1.2.2.1), some (.int s1.2.2.2.1), some (.int s1.2.2.2.2)], [.int s1.2.2.2.2, .ref 38])) 3 rfl ?_
            refine ax_Wp.rdI hD rfl rfl rfl (fun x11 hD => ?_)
            refine ax_Wp.go (f' := (141, [some (.ref 36), some (.int p0), some (.int p1), some (.int p2), some (.int p3), some (.int s1.1), some (.int s1.2.1), some (.int s1.2.2.1), some (.int s1.2.2.2.1), some (.int s1.2.2.2.2)], [.int p1, .int x11])) 1 rfl ?_
            refine ax_Wp.brD hD rfl (fun _ hD => ?_) (fun _ hD => ?_)
            · refine ax_Wp.go (f' := (150, [some (.ref 36), some (.int p0), some (.int p1), some (.int p2), some (.int p3), some (.int s1.1), some (.int s1.2.1), some (.int s1.2.2.1), some (.int s1.2.2.2.1), some (.int s1.2.2.2.2)], [.int s1.2.2.2.2, .ref 37])) 3 rfl ?_
              refine ax_Wp.rdI hD rfl rfl rfl (fun x12 hD => ?_)
              refine ax_Wp.go (f' := (152, [some (.ref 36), some (.int p0), some (.int p1), some (.int p2), some (.int p3), some (.int s1.1), some (.int s1.2.1), some (.int s1.2.2.1), some (.int s1.2.2.2.1), some (.int s1.2.2.2.2)], [.int p2, .int x12])) 1 rfl ?_
              refine ax_Wp.brD hD rfl (fun _ hD => ?_) (fun _ hD => ?_)
              · refine ax_Wp.go (f' := (160, [some (.ref 36), some (.int p0), some (.int p1), some (.int p2), some (.int p3), some (.int s1.1), some (.int s1.2.1), some (.int s1.2.2.1), some (.int s1.2.2.2.1), some (.int s1.2.2.2.2)], [.int (nI 1)])) 2 rfl ?_
                obtain rfl := inj hD
                exact ax_Wp.dead kkv10 ⟨.inl rfl, ⟨.inl rfl, ⟨.inl rfl, ⟨.inl rfl, ⟨.inl rfl, ⟨.inr ⟨rfl, trivial⟩, ⟨.inl rfl, ⟨.inl rfl, ⟨.inl rfl, ⟨.inl rfl, trivial⟩⟩⟩⟩⟩⟩⟩⟩⟩⟩
              · refine ax_Wp.go (f' := (160, [some (.ref 36), some (.int p0), some (.int p1), some (.int p2), some (.int p3), some (.int s1.1), some (.int s1.2.1), some (.int s1.2.2.1), some (.int s1.2.2.2.1), some (.int s1.2.2.2.2)], [.int (nI 0)])) 1 rfl ?_
                obtain rfl := inj hD
                exact ax_Wp.dead kkv10 ⟨.inl rfl, ⟨.inl rfl, ⟨.inl rfl, ⟨.inl rfl, ⟨.inl rfl, ⟨.inr ⟨rfl, trivial⟩, ⟨.inl rfl, ⟨.inl rfl, ⟨.inl rfl, ⟨.inl rfl, trivial⟩⟩⟩⟩⟩⟩⟩⟩⟩⟩
            · refine ax_Wp.go (f' := (160, [some (.ref 36), some (.int p0), some (.int p1), some (.int p2), some (.int p3), some (.int s1.1), some (.int s1.2.1), some (.int s1.2.2.1), some (.int s1.2.2.2.1), some (.int s1.2.2.2.2)], [.int (nI 0)])) 1 rfl ?_
              obtain rfl := inj hD
              exact ax_Wp.dead kkv10 ⟨.inl rfl, ⟨.inl rfl, ⟨.inl rfl, ⟨.inl rfl, ⟨.inl rfl, ⟨.inr ⟨rfl, trivial⟩, ⟨.inl rfl, ⟨.inl rfl, ⟨.inl rfl, ⟨.inl rfl, trivial⟩⟩⟩⟩⟩⟩⟩⟩⟩⟩
          · refine ax_Wp.go (f' := (160, [some (.ref 36), some (.int p0), some (.int p1), some (.int p2), some (.int p3), some (.int s1.1), some (.int s1.2.1), some (.int s1.2.2.1), some (.int s1.2.2.2.1), some (.int s1.2.2.2.2)], [.int (nI 1)])) 2 rfl ?_
            obtain rfl := inj hD
            exact ax_Wp.dead kkv10 ⟨.inl rfl, ⟨.inl rfl, ⟨.inl rfl, ⟨.inl rfl, ⟨.inl rfl, ⟨.inr ⟨rfl, trivial⟩, ⟨.inl rfl, ⟨.inl rfl, ⟨.inl rfl, ⟨.inl rfl, trivial⟩⟩⟩⟩⟩⟩⟩⟩⟩⟩
      · refine ax_Wp.go (f' := (42, [some (.ref 36), some (.int p0), some (.int p1), some (.int p2), some (.int p3), some (.int s1.1), some (.int s1.2.1), some (.int s1.2.2.1), some (.int s1.2.2.2.1), some (.int s1.2.2.2.2)], [.int s1.2.2.2.1])) 1 rfl ?_
        refine bnd hD (fun v13 hx hD => ?_)
        refine ax_Wp.jn (F := (61, [some (.ref 36), some (.int p0), some (.int p1), some (.int p2), some (.int p3), some (.int s1.1), some (.int s1.2.1), some (.int s1.2.2.1), none, some (.int s1.2.2.2.2)], [.int v13])) (hh := stt m) ?_ (fun kkv13 => ?_)
        · refine ax_Wp.go (f' := (162, [some (.ref 36), some (.int p0), some (.int p1), some (.int p2), some (.int p3), some (.int s1.1), some (.int s1.2.1), some (.int s1.2.2.1), some (.int v13), some (.int s1.2.2.2.2)], [])) 2 rfl ?_
          obtain rfl := inj hD
          exact kkv3
        clear hD
        have hD := hx
        clear hx
        refine ax_Wp.brD hD rfl (fun _ hD => ?_) (fun _ hD => ?_)
        · refine ax_Wp.go (f' := (51, [some (.ref 36), some (.int p0), some (.int p1), some (.int p2), some (.int p3), some (.int s1.1), some (.int s1.2.1), some (.int s1.2.2.1), some (.int s1.2.2.2.1), some (.int s1.2.2.2.2)], [.int s1.2.2.2.2, .ref 37])) 3 rfl ?_
          refine ax_Wp.rdI hD rfl rfl rfl (fun x14 hD => ?_)
          refine ax_Wp.go (f' := (53, [some (.ref 36), some (.int p0), some (.int p1), some (.int p2), some (.int p3), some (.int s1.1), some (.int s1.2.1), some (.int s1.2.2.1), some (.int s1.2.2.2.1), some (.int s1.2.2.2.2)], [.int p2, .int x14])) 1 rfl ?_
          refine ax_Wp.brD hD rfl (fun _ hD => ?_) (fun _ hD => ?_)
          · refine ax_Wp.go (f' := (61, [some (.ref 36), some (.int p0), some (.int p1), some (.int p2), some (.int p3), some (.int s1.1), some (.int s1.2.1), some (.int s1.2.2.1), some (.int s1.2.2.2.1), some (.int s1.2.2.2.2)], [.int (nI 1)])) 2 rfl ?_
            obtain rfl := inj hD
            exact ax_Wp.dead kkv13 ⟨.inl rfl, ⟨.inl rfl, ⟨.inl rfl, ⟨.inl rfl, ⟨.inl rfl, ⟨.inl rfl, ⟨.inl rfl, ⟨.inl rfl, ⟨.inr ⟨rfl, trivial⟩, ⟨.inl rfl, trivial⟩⟩⟩⟩⟩⟩⟩⟩⟩⟩
          · refine ax_Wp.go (f' := (61, [some (.ref 36), some (.int p0), some (.int p1), some (.int p2), some (.int p3), some (.int s1.1), some (.int s1.2.1), some (.int s1.2.2.1), some (.int s1.2.2.2.1), some (.int s1.2.2.2.2)], [.int (nI 0)])) 1 rfl ?_
            obtain rfl := inj hD
            exact ax_Wp.dead kkv13 ⟨.inl rfl, ⟨.inl rfl, ⟨.inl rfl, ⟨.inl rfl, ⟨.inl rfl, ⟨.inl rfl, ⟨.inl rfl, ⟨.inl rfl, ⟨.inr ⟨rfl, trivial⟩, ⟨.inl rfl, trivial⟩⟩⟩⟩⟩⟩⟩⟩⟩⟩
        · refine ax_Wp.go (f' := (61, [some (.ref 36), some (.int p0), some (.int p1), some (.int p2), some (.int p3), some (.int s1.1), some (.int s1.2.1), some (.int s1.2.2.1), some (.int s1.2.2.2.1), some (.int s1.2.2.2.2)], [.int (nI 1)])) 2 rfl ?_
          obtain rfl := inj hD
          exact ax_Wp.dead kkv13 ⟨.inl rfl, ⟨.inl rfl, ⟨.inl rfl, ⟨.inl rfl, ⟨.inl rfl, ⟨.inl rfl, ⟨.inl rfl, ⟨.inl rfl, ⟨.inr ⟨rfl, trivial⟩, ⟨.inl rfl, trivial⟩⟩⟩⟩⟩⟩⟩⟩⟩⟩
def D8 (m : dM) : Option (Int32 × dM) := Option.bind (lp (β := dM) 3000 (fun (s1 : Int32 × dM) => if (nI 4) ≤ s1.1 then some (.inr s1.2) else (gI s1.2 40 4 s1.1).bind fun (x3 : Int32) => Option.bind ((if x3 = (nI 0) then (gI s1.2 37 4 s1.1).bind fun (x5 : Int32) => (gI s1.2 38 4 s1.1).bind fun (x6 : Int32) => (gI s1.2 39 4 s1.1).bind fun (x7 : Int32) => (D9 s1.2 s1.1 x5 x6 x7).bind fun (x8 : Int32) => some x8 else (gI s1.2 40 4 s1.1).bind fun (x9 : Int32) => some x9) : Option (Int32)) fun (v4 : Int32) => (sI s1.2 41 4 s1.1 v4).bind fun (m10 : dM) => some (.inl (s1.1 + (nI 1), m10))) (nI 0, m)) fun (v2 : dM) => Option.bind (lp (β := Int32 × dM) 3000 (fun (s11 : Int32 × Int32 × dM) => if (nI 4) ≤ s11.2.1 then some (.inr (s11.1, s11.2.2)) else Option.bind ((if s11.1 = (nI 0) then (gI s11.2.2 41 4 s11.2.1).bind fun (x14 : Int32) => (gI s11.2.2 40 4 s11.2.1).bind fun (x15 : Int32) => if x14 = x15 then some (nI 0) else some (nI 1) else some (nI 1)) : Option (Int32)) fun (v13 : Int32) => (gI s11.2.2 41 4 s11.2.1).bind fun (x16 : Int32) => (sI s11.2.2 40 4 s11.2.1 x16).bind fun (m17 : dM) => some (.inl (v13, s11.2.1 + (nI 1), m17))) (nI 0, nI 0, v2)) fun (v12 : Int32 × dM) => (gB v12.1).bind fun (b18 : Int32) => some (b18, v12.2)
set_option maxRecDepth 20000 in
theorem w_8 {X : Nat × (Nat → Int32)} {d : Nat} {m : dM} {r : Int32 × dM} (hD : D8 m = some r) : ax_Ev X (d + 2) 8 [.ref 36] (stt m) (.inl (some (.int r.1))) (stt r.2) := by
  unfold D8 at hD
  show ax_Wp X (d + 1 + 1) 8 (0, [some (.ref 36), none, none], []) (stt m) _
  refine ax_Wp.go (f' := (4, [some (.ref 36), some (.int (nI 0)), some (.int (nI 0))], [])) 4 rfl ?_
  refine bnd hD (fun v2 hx hD => ?_)
  refine ax_Wp.jn (F := (62, [some (.ref 36), some (.int (nI 0)), none], [])) (hh := stt v2) ?_ (fun kkv2 => ?_)
  · refine ax_Wp.go (f' := (64, [some (.ref 36), some (.int (nI 0)), some (.int (nI 0))], [])) 2 rfl ?_
    refine bnd hD (fun v12 hx hD => ?_)
    refine ax_Wp.jn (F := (112, [some (.ref 36), some (.int v12.1), none], [])) (hh := stt v12.2) ?_ (fun kkv12 => ?_)
    · refine ax_Wp.go (f' := (113, [some (.ref 36), some (.int v12.1), none], [.int v12.1])) 1 rfl ?_
      refine ax_Wp.retB hD rfl (fun b18 hD => ?_)
      obtain rfl := inj hD
      exact ⟨rfl, rfl⟩
    clear hD
    refine ax_Wp.lpD (fun (s11 : Int32 × Int32 × dM) => ((64, [some (.ref 36), some (.int s11.1), some (.int s11.2.1)], []), stt s11.2.2)) ?_ hx
    clear hx
    intro s11 v hD ks11
    refine ax_Wp.go (f' := (66, [some (.ref 36), some (.int s11.1), some (.int s11.2.1)], [.int (nI 4), .int s11.2.1])) 2 rfl ?_
    refine ax_Wp.brD hD rfl (fun _ hD => ?_) (fun _ hD => ?_)
    · obtain rfl := inj hD
      obtain rfl := ks11.o
      exact ax_Wp.dead kkv12 ⟨.inl rfl, ⟨.inl rfl, ⟨.inr ⟨rfl, trivial⟩, trivial⟩⟩⟩
    · refine ax_Wp.go (f' := (70, [some (.ref 36), some (.int s11.1), some (.int s11.2.1)], [.int s11.1])) 1 rfl ?_
      refine bnd hD (fun v13 hx hD => ?_)
      refine ax_Wp.jn (F := (93, [some (.ref 36), none, some (.int s11.2.1)], [.int v13])) (hh := stt s11.2.2) ?_ (fun kkv13 => ?_)
      · refine ax_Wp.go (f' := (104, [some (.ref 36), some (.int v13), some (.int s11.2.1)], [.int s11.2.1, .ref 41, .int s11.2.1, .ref 40])) 7 rfl ?_
        refine ax_Wp.rdI hD rfl rfl rfl (fun x16 hD => ?_)
        refine ax_Wp.wrI hD rfl rfl (fun _ => rfl) (fun m17 hD => ?_)
        refine ax_Wp.go (f' := (64, [some (.ref 36), some (.int v13), some (.int (s11.2.1 + (nI 1)))], [])) 2 rfl ?_
        obtain rfl := inj hD
        exact ks11.i
      clear hD
      have hD := hx
      clear hx
      refine ax_Wp.brD hD rfl (fun _ hD => ?_) (fun _ hD => ?_)
      · refine ax_Wp.go (f' := (78, [some (.ref 36), some (.int s11.1), some (.int s11.2.1)], [.int s11.2.1, .ref 41])) 3 rfl ?_
        refine ax_Wp.rdI hD rfl rfl rfl (fun x14 hD => ?_)
        refine ax_Wp.go (f' := (84, [some (.ref 36), some (.int s11.1), some (.int s11.2.1)], [.int s11.2.1, .ref 40, .int x14])) 3 rfl ?_
        refine ax_Wp.rdI hD rfl rfl rfl (fun x15 hD => ?_)
        refine ax_Wp.brD hD rfl (fun _ hD => ?_) (fun _ hD => ?_)
        · refine ax_Wp.go (f' := (93, [some (.ref 36), some (.int s11.1), some (.int s11.2.1)], [.int (nI 0)])) 1 rfl ?_
          obtain rfl := inj hD
          exact ax_Wp.dead kkv13 ⟨.inl rfl, ⟨.inr ⟨rfl, trivial⟩, ⟨.inl rfl, trivial⟩⟩⟩
        · refine ax_Wp.go (f' := (93, [some (.ref 36), some (.int s11.1), some (.int s11.2.1)], [.int (nI 1)])) 2 rfl ?_
          obtain rfl := inj hD
          exact ax_Wp.dead kkv13 ⟨.inl rfl, ⟨.inr ⟨rfl, trivial⟩, ⟨.inl rfl, trivial⟩⟩⟩
      · refine ax_Wp.go (f' := (93, [some (.ref 36), some (.int s11.1), some (.int s11.2.1)], [.int (nI 1)])) 2 rfl ?_
        obtain rfl := inj hD
        exact ax_Wp.dead kkv13 ⟨.inl rfl, ⟨.inr ⟨rfl, trivial⟩, ⟨.inl rfl, trivial⟩⟩⟩
  clear hD
  refine ax_Wp.lpD (fun (s1 : Int32 × dM) => ((4, [some (.ref 36), some (.int (nI 0)), some (.int s1.1)], []), stt s1.2)) ?_ hx
  clear hx
  intro s1 v hD ks1
  refine ax_Wp.go (f' := (6, [some (.ref 36), some (.int (nI 0)), some (.int s1.1)], [.int (nI 4), .int s1.1])) 2 rfl ?_
  refine ax_Wp.brD hD rfl (fun _ hD => ?_) (fun _ hD => ?_)
  · obtain rfl := inj hD
    obtain rfl := ks1.o
    exact ax_Wp.dead kkv2 ⟨.inl rfl, ⟨.inl rfl, ⟨.inr ⟨rfl, trivial⟩, trivial⟩⟩⟩
  · refine ax_Wp.go (f' := (19, [some (.ref 36), some (.int (nI 0)), some (.int s1.1)], [.int s1.1, .ref 40, .int s1.1, .ref 41])) 6 rfl ?_
    refine ax_Wp.rdI hD rfl rfl rfl (fun x3 hD => ?_)
    refine bnd hD (fun v4 hx hD => ?_)
    refine ax_Wp.jn (F := (55, [some (.ref 36), some (.int (nI 0)), some (.int s1.1)], [.int v4, .int s1.1, .ref 41])) (hh := stt s1.2) ?_ (fun kkv4 => ?_)
    · refine ax_Wp.wrI hD rfl rfl (fun _ => rfl) (fun m10 hD => ?_)
      refine ax_Wp.go (f' := (4, [some (.ref 36), some (.int (nI 0)), some (.int (s1.1 + (nI 1)))], [])) 2 rfl ?_
      obtain rfl := inj hD
      exact ks1.i
    clear hD
    have hD := hx
    clear hx
    refine ax_Wp.brD hD rfl (fun _ hD => ?_) (fun _ hD => ?_)
    · refine ax_Wp.go (f' := (30, [some (.ref 36), some (.int (nI 0)), some (.int s1.1)], [.int s1.1, .ref 37, .int s1.1, .ref 36, .int s1.1, .ref 41])) 5 rfl ?_
      refine ax_Wp.rdI hD rfl rfl rfl (fun x5 hD => ?_)
      refine ax_Wp.go (f' := (36, [some (.ref 36), some (.int (nI 0)), some (.int s1.1)], [.int s1.1, .ref 38, .int x5, .int s1.1, .ref 36, .int s1.1, .ref 41])) 3 rfl ?_
      refine ax_Wp.rdI hD rfl rfl rfl (fun x6 hD => ?_)
      refine ax_Wp.go (f' := (42, [some (.ref 36), some (.int (nI 0)), some (.int s1.1)], [.int s1.1, .ref 39, .int x6, .int x5, .int s1.1, .ref 36, .int s1.1, .ref 41])) 3 rfl ?_
      refine ax_Wp.rdI hD rfl rfl rfl (fun x7 hD => ?_)
      refine bnd hD (fun x8 hx hD => ?_)
      refine ax_Wp.callE (f' := (46, [some (.ref 36), some (.int (nI 0)), some (.int s1.1)], [.int s1.1, .ref 41])) rfl rfl (w_9 (d := d + 0) hx) rfl ?_
      refine ax_Wp.go (f' := (55, [some (.ref 36), some (.int (nI 0)), some (.int s1.1)], [.int x8, .int s1.1, .ref 41])) 1 rfl ?_
      obtain rfl := inj hD
      exact kkv4
    · refine ax_Wp.go (f' := (54, [some (.ref 36), some (.int (nI 0)), some (.int s1.1)], [.int s1.1, .ref 40, .int s1.1, .ref 41])) 3 rfl ?_
      refine ax_Wp.rdI hD rfl rfl rfl (fun x9 hD => ?_)
      obtain rfl := inj hD
      exact kkv4
def D7 (m : dM) : Option (dM) := Option.bind (lp (β := dM) 3000 (fun (s1 : Int32 × dM) => if (nI 4) ≤ s1.1 then some (.inr s1.2) else (gI s1.2 7 4 s1.1).bind fun (x3 : Int32) => (D59 s1.2 x3).bind fun (x4 : Int32) => (gI s1.2 6 4 s1.1).bind fun (x5 : Int32) => (sI s1.2 37 4 s1.1 x5).bind fun (m6 : dM) => Option.bind ((if x4 = (nI 0) then some (-1) else (gI m6 4 24 x3).bind fun (x8 : Int32) => some x8) : Option (Int32)) fun (v7 : Int32) => (sI m6 38 4 s1.1 v7).bind fun (m9 : dM) => (D34 m9 s1.1).bind fun (x10 : Int32) => (sI m9 39 4 s1.1 x10).bind fun (m11 : dM) => Option.bind ((if x4 = (nI 0) then some (nI 1) else some (nI 0)) : Option (Int32)) fun (v12 : Int32) => (sI m11 40 4 s1.1 v12).bind fun (m13 : dM) => some (.inl (s1.1 + (nI 1), m13))) (nI 0, m)) fun (v2 : dM) => lp (β := dM) 3000 (fun (s14 : Int32 × dM) => if (nI 4) < s14.1 then some (.inr s14.2) else (D8 s14.2).bind fun (r15 : Int32 × dM) => if r15.1 = (nI 0) then some (.inr r15.2) else some (.inl (s14.1 + (nI 1), r15.2))) (nI 0, v2)
set_option maxRecDepth 20000 in
theorem w_7 {X : Nat × (Nat → Int32)} {d : Nat} {m : dM} {r : dM} (hD : D7 m = some r) : ax_Ev X (d + 3) 7 [.ref 36, .ref 1] (stt m) (.inl none) (stt r) := by
  unfold D7 at hD
  show ax_Wp X (d + 2 + 1) 7 (0, [some (.ref 36), some (.ref 1), none, none, none], []) (stt m) _
  refine ax_Wp.go (f' := (2, [some (.ref 36), some (.ref 1), some (.int (nI 0)), none, none], [])) 2 rfl ?_
  refine bnd hD (fun v2 hx hD => ?_)
  refine ax_Wp.jn (F := (102, [some (.ref 36), some (.ref 1), none, none, none], [])) (hh := stt v2) ?_ (fun kkv2 => ?_)
  · refine ax_Wp.go (f' := (104, [some (.ref 36), some (.ref 1), some (.int (nI 0)), none, none], [])) 2 rfl ?_
    refine ax_Wp.lpD (fun (s14 : Int32 × dM) => ((104, [some (.ref 36), some (.ref 1), some (.int s14.1), none, none], []), stt s14.2)) ?_ hD
    clear hD
    intro s14 v hD ks14
    refine ax_Wp.go (f' := (106, [some (.ref 36), some (.ref 1), some (.int s14.1), none, none], [.int (nI 4), .int s14.1])) 2 rfl ?_
    refine ax_Wp.brD hD rfl (fun _ hD => ?_) (fun _ hD => ?_)
    · obtain rfl := inj hD
      obtain rfl := ks14.o
      exact ax_Wp.ret rfl ⟨rfl, rfl⟩
    · refine ax_Wp.go (f' := (110, [some (.ref 36), some (.ref 1), some (.int s14.1), none, none], [.ref 36])) 1 rfl ?_
      refine bnd hD (fun r15 hx hD => ?_)
      refine ax_Wp.callE (f' := (113, [some (.ref 36), some (.ref 1), some (.int s14.1), none, none], [])) rfl rfl (w_8 (d := d + 0) hx) rfl ?_
      refine ax_Wp.brD hD rfl (fun _ hD => ?_) (fun _ hD => ?_)
      · obtain rfl := inj hD
        obtain rfl := ks14.o
        exact ax_Wp.ret rfl ⟨rfl, rfl⟩
      · refine ax_Wp.go (f' := (104, [some (.ref 36), some (.ref 1), some (.int (s14.1 + (nI 1))), none, none], [])) 2 rfl ?_
        obtain rfl := inj hD
        exact ks14.i
  clear hD
  refine ax_Wp.lpD (fun (s1 : Int32 × dM) => ((2, [some (.ref 36), some (.ref 1), some (.int s1.1), none, none], []), stt s1.2)) ?_ hx
  clear hx
  intro s1 v hD ks1
  refine ax_Wp.go (f' := (4, [some (.ref 36), some (.ref 1), some (.int s1.1), none, none], [.int (nI 4), .int s1.1])) 2 rfl ?_
  refine ax_Wp.brD hD rfl (fun _ hD => ?_) (fun _ hD => ?_)
  · obtain rfl := inj hD
    obtain rfl := ks1.o
    exact ax_Wp.dead kkv2 ⟨.inl rfl, ⟨.inl rfl, ⟨.inr ⟨rfl, trivial⟩, ⟨.inl rfl, ⟨.inl rfl, trivial⟩⟩⟩⟩⟩
  · refine ax_Wp.go (f' := (15, [some (.ref 36), some (.ref 1), some (.int s1.1), none, none], [.int s1.1, .ref 7])) 4 rfl ?_
    refine ax_Wp.rdI hD rfl rfl rfl (fun x3 hD => ?_)
    refine ax_Wp.go (f' := (22, [some (.ref 36), some (.ref 1), some (.int s1.1), some (.int x3), none], [.int x3, .ref 2])) 4 rfl ?_
    refine bnd hD (fun x4 hx hD => ?_)
    refine ax_Wp.callE (f' := (25, [some (.ref 36), some (.ref 1), some (.int s1.1), some (.int x3), none], [])) rfl rfl (w_59 (d := d + 1) hx) rfl ?_
    refine ax_Wp.go (f' := (40, [some (.ref 36), some (.ref 1), some (.int s1.1), some (.int x3), some (.int x4)], [.int s1.1, .ref 6, .int s1.1, .ref 37])) 8 rfl ?_
    refine ax_Wp.rdI hD rfl rfl rfl (fun x5 hD => ?_)
    refine ax_Wp.wrI hD rfl rfl (fun _ => rfl) (fun m6 hD => ?_)
    refine ax_Wp.go (f' := (49, [some (.ref 36), some (.ref 1), some (.int s1.1), some (.int x3), some (.int x4)], [.int x4, .int s1.1, .ref 38])) 4 rfl ?_
    refine bnd hD (fun v7 hx hD => ?_)
    refine ax_Wp.jn (F := (65, [some (.ref 36), some (.ref 1), some (.int s1.1), none, some (.int x4)], [.int v7, .int s1.1, .ref 38])) (hh := stt m6) ?_ (fun kkv7 => ?_)
    · refine ax_Wp.wrI hD rfl rfl (fun _ => rfl) (fun m9 hD => ?_)
      refine ax_Wp.go (f' := (76, [some (.ref 36), some (.ref 1), some (.int s1.1), none, some (.int x4)], [.int s1.1, .ref 10, .int s1.1, .ref 39])) 6 rfl ?_
      refine bnd hD (fun x10 hx hD => ?_)
      refine ax_Wp.callE (f' := (79, [some (.ref 36), some (.ref 1), some (.int s1.1), none, some (.int x4)], [.int s1.1, .ref 39])) rfl rfl (w_34 (d := d + 1) hx) rfl ?_
      refine ax_Wp.wrI hD rfl rfl (fun _ => rfl) (fun m11 hD => ?_)
      refine ax_Wp.go (f' := (87, [some (.ref 36), some (.ref 1), some (.int s1.1), none, some (.int x4)], [.int x4, .int s1.1, .ref 40])) 4 rfl ?_
      refine bnd hD (fun v12 hx hD => ?_)
      refine ax_Wp.jn (F := (95, [some (.ref 36), some (.ref 1), some (.int s1.1), none, none], [.int v12, .int s1.1, .ref 40])) (hh := stt m11) ?_ (fun kkv12 => ?_)
      · refine ax_Wp.wrI hD rfl rfl (fun _ => rfl) (fun m13 hD => ?_)
        refine ax_Wp.go (f' := (2, [some (.ref 36), some (.ref 1), some (.int (s1.1 + (nI 1))), none, none], [])) 2 rfl ?_
        obtain rfl := inj hD
        exact ks1.i
      clear hD
      have hD := hx
      clear hx
      refine ax_Wp.brD hD rfl (fun _ hD => ?_) (fun _ hD => ?_)
      · refine ax_Wp.go (f' := (95, [some (.ref 36), some (.ref 1), some (.int s1.1), none, some (.int x4)], [.int (nI 1), .int s1.1, .ref 40])) 1 rfl ?_
        obtain rfl := inj hD
        exact ax_Wp.dead kkv12 ⟨.inl rfl, ⟨.inl rfl, ⟨.inl rfl, ⟨.inl rfl, ⟨.inr ⟨rfl, trivial⟩, trivial⟩⟩⟩⟩⟩
      · refine ax_Wp.go (f' := (95, [some (.ref 36), some (.ref 1), some (.int s1.1), none, some (.int x4)], [.int (nI 0), .int s1.1, .ref 40])) 2 rfl ?_
        obtain rfl := inj hD
        exact ax_Wp.dead kkv12 ⟨.inl rfl, ⟨.inl rfl, ⟨.inl rfl, ⟨.inl rfl, ⟨.inr ⟨rfl, trivial⟩, trivial⟩⟩⟩⟩⟩
    clear hD
    have hD := hx
    clear hx
    refine ax_Wp.brD hD rfl (fun _ hD => ?_) (fun _ hD => ?_)
    · refine ax_Wp.go (f' := (65, [some (.ref 36), some (.ref 1), some (.int s1.1), some (.int x3), some (.int x4)], [.int (-1), .int s1.1, .ref 38])) 1 rfl ?_
      obtain rfl := inj hD
      exact ax_Wp.dead kkv7 ⟨.inl rfl, ⟨.inl rfl, ⟨.inl rfl, ⟨.inr ⟨rfl, trivial⟩, ⟨.inl rfl, trivial⟩⟩⟩⟩⟩
    · refine ax_Wp.go (f' := (60, [some (.ref 36), some (.ref 1), some (.int s1.1), some (.int x3), some (.int x4)], [.int x3, .ref 4, .int s1.1, .ref 38])) 4 rfl ?_
      refine ax_Wp.rdI hD rfl rfl rfl (fun x8 hD => ?_)
      refine ax_Wp.go (f' := (65, [some (.ref 36), some (.ref 1), some (.int s1.1), some (.int x3), some (.int x4)], [.int x8, .int s1.1, .ref 38])) 1 rfl ?_
      obtain rfl := inj hD
      exact ax_Wp.dead kkv7 ⟨.inl rfl, ⟨.inl rfl, ⟨.inl rfl, ⟨.inr ⟨rfl, trivial⟩, ⟨.inl rfl, trivial⟩⟩⟩⟩⟩
