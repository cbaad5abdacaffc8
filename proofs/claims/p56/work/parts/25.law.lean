/-! WHAT METHODS DO, printed of their bytecode -/
def D300 (X : Nat × (Nat → Int32)) (m : dM) (p0 : Int32) : Option (Int32) := Option.bind ((if (Int32.ofNat X.1) ≤ p0 then some (((nI 7919) * (p0 + (nI 3))) * (p0 + (nI 11))) else (gX X p0).bind fun (x2 : Int32) => some x2) : Option (Int32)) fun (v1 : Int32) => some v1
set_option maxRecDepth 20000 in
theorem w_300 {X : Nat × (Nat → Int32)} {d : Nat} {m : dM} {p0 : Int32} {r : Int32} (hD : D300 X m p0 = some r) : ax_Ev X (d + 1) 109 [.retAddr 0, .int p0] (stt m) (.inl (some (.int r))) (stt m) := by
  unfold D300 at hD
  show ax_Wp X (d + 0 + 1) 109 (0, [some (.retAddr 0), some (.int p0)], []) (stt m) _
  refine ax_Wp.go (f' := (3, [some (.retAddr 0), some (.int p0)], [.int (Int32.ofNat X.1), .int p0])) 3 rfl ?_
  refine bnd hD (fun v1 hx hD => ?_)
  refine ax_Wp.jn (F := (24, [some (.retAddr 0), none], [.int v1])) (hh := stt m) ?_ (fun kkv1 => ?_)
  · obtain rfl := inj hD
    exact ax_Wp.ret rfl ⟨rfl, rfl⟩
  clear hD
  have hD := hx
  clear hx
  refine ax_Wp.brD hD rfl (fun _ hD => ?_) (fun _ hD => ?_)
  · refine ax_Wp.go (f' := (24, [some (.retAddr 0), some (.int p0)], [.int (((nI 7919) * (p0 + (nI 3))) * (p0 + (nI 11)))])) 9 rfl ?_
    obtain rfl := inj hD
    exact ax_Wp.dead kkv1 ⟨.inl rfl, ⟨.inr ⟨rfl, trivial⟩, trivial⟩⟩
  · refine ax_Wp.go (f' := (8, [some (.retAddr 0), some (.int p0)], [.int p0, .retAddr 0])) 2 rfl ?_
    refine ax_Wp.rdX hD rfl (fun x2 hD => ?_)
    refine ax_Wp.go (f' := (24, [some (.retAddr 0), some (.int p0)], [.int x2])) 1 rfl ?_
    obtain rfl := inj hD
    exact ax_Wp.dead kkv1 ⟨.inl rfl, ⟨.inr ⟨rfl, trivial⟩, trivial⟩⟩
def D301 (p0 : Int32) (p1 : Int32) : Option (Int32) := (gM (p0 &&& (nI 2147483647)) p1).bind fun (x1 : Int32) => some x1
set_option maxRecDepth 20000 in
theorem w_301 {X : Nat × (Nat → Int32)} {d : Nat} {m : dM} {p0 : Int32} {p1 : Int32} {r : Int32} (hD : D301 p0 p1 = some r) : ax_Ev X (d + 1) 110 [.int p0, .int p1] (stt m) (.inl (some (.int r))) (stt m) := by
  unfold D301 at hD
  show ax_Wp X (d + 0 + 1) 110 (0, [some (.int p0), some (.int p1)], []) (stt m) _
  refine ax_Wp.go (f' := (5, [some (.int p0), some (.int p1)], [.int p1, .int (p0 &&& (nI 2147483647))])) 4 rfl ?_
  refine ax_Wp.rmD hD rfl (fun x1 hD => ?_)
  obtain rfl := inj hD
  exact ax_Wp.ret rfl ⟨rfl, rfl⟩
def D305 (m : dM) (p0 : Int32) (p1 : Int32) : Option (Int32) := Option.bind (lp (β := Int32) 3000 (fun (s1 : Int32 × Int32) => if (nI 4) ≤ s1.2 then some (.inr s1.1) else Option.bind ((if s1.1 = (nI 0) then some (nI 0) else if s1.2 = p0 then some (nI 1) else cT (D94 m s1.2) m (fun (x4 : Int32) => if x4 = p1 then some (nI 0) else some (nI 1)) (fun (j5 : Nat) (m6 : dM) => none)) : Option (Int32)) fun (v3 : Int32) => some (.inl (v3, s1.2 + (nI 1)))) (nI 1, nI 0)) fun (v2 : Int32) => (gB v2).bind fun (b7 : Int32) => some b7
set_option maxRecDepth 20000 in
theorem w_305 {X : Nat × (Nat → Int32)} {d : Nat} {m : dM} {p0 : Int32} {p1 : Int32} {r : Int32} (hD : D305 m p0 p1 = some r) : ax_Ev X (d + 8) 114 [.ref 0, .int p0, .int p1] (stt m) (.inl (some (.int r))) (stt m) := by
  unfold D305 at hD
  show ax_Wp X (d + 7 + 1) 114 (0, [some (.ref 0), some (.int p0), some (.int p1), none, none], []) (stt m) _
  refine ax_Wp.go (f' := (5, [some (.ref 0), some (.int p0), some (.int p1), some (.int (nI 1)), some (.int (nI 0))], [])) 4 rfl ?_
  refine bnd hD (fun v2 hx hD => ?_)
  refine ax_Wp.jn (F := (43, [some (.ref 0), none, none, some (.int v2), none], [])) (hh := stt m) ?_ (fun kkv2 => ?_)
  · refine ax_Wp.go (f' := (44, [some (.ref 0), none, none, some (.int v2), none], [.int v2])) 1 rfl ?_
    refine ax_Wp.retB hD rfl (fun b7 hD => ?_)
    obtain rfl := inj hD
    exact ⟨rfl, rfl⟩
  clear hD
  refine ax_Wp.lpD (fun (s1 : Int32 × Int32) => ((5, [some (.ref 0), some (.int p0), some (.int p1), some (.int s1.1), some (.int s1.2)], []), stt m)) ?_ hx
  clear hx
  intro s1 v hD ks1
  refine ax_Wp.go (f' := (8, [some (.ref 0), some (.int p0), some (.int p1), some (.int s1.1), some (.int s1.2)], [.int (nI 4), .int s1.2])) 2 rfl ?_
  refine ax_Wp.brD hD rfl (fun _ hD => ?_) (fun _ hD => ?_)
  · obtain rfl := inj hD
    obtain rfl := ks1.o
    exact ax_Wp.dead kkv2 ⟨.inl rfl, ⟨.inr ⟨rfl, trivial⟩, ⟨.inr ⟨rfl, trivial⟩, ⟨.inl rfl, ⟨.inr ⟨rfl, trivial⟩, trivial⟩⟩⟩⟩⟩
  · refine ax_Wp.go (f' := (12, [some (.ref 0), some (.int p0), some (.int p1), some (.int s1.1), some (.int s1.2)], [.int s1.1])) 1 rfl ?_
    refine bnd hD (fun v3 hx hD => ?_)
    refine ax_Wp.jn (F := (36, [some (.ref 0), some (.int p0), some (.int p1), none, some (.int s1.2)], [.int v3])) (hh := stt m) ?_ (fun kkv3 => ?_)
    · refine ax_Wp.go (f' := (5, [some (.ref 0), some (.int p0), some (.int p1), some (.int v3), some (.int (s1.2 + (nI 1)))], [])) 3 rfl ?_
      obtain rfl := inj hD
      exact ks1.i
    clear hD
    have hD := hx
    clear hx
    refine ax_Wp.brD hD rfl (fun _ hD => ?_) (fun _ hD => ?_)
    · refine ax_Wp.go (f' := (36, [some (.ref 0), some (.int p0), some (.int p1), some (.int s1.1), some (.int s1.2)], [.int (nI 0)])) 1 rfl ?_
      obtain rfl := inj hD
      exact ax_Wp.dead kkv3 ⟨.inl rfl, ⟨.inl rfl, ⟨.inl rfl, ⟨.inr ⟨rfl, trivial⟩, ⟨.inl rfl, trivial⟩⟩⟩⟩⟩
    · refine ax_Wp.go (f' := (18, [some (.ref 0), some (.int p0), some (.int p1), some (.int s1.1), some (.int s1.2)], [.int p0, .int s1.2])) 2 rfl ?_
      refine ax_Wp.brD hD rfl (fun _ hD => ?_) (fun _ hD => ?_)
      · refine ax_Wp.go (f' := (36, [some (.ref 0), some (.int p0), some (.int p1), some (.int s1.1), some (.int s1.2)], [.int (nI 1)])) 2 rfl ?_
        obtain rfl := inj hD
        exact ax_Wp.dead kkv3 ⟨.inl rfl, ⟨.inl rfl, ⟨.inl rfl, ⟨.inr ⟨rfl, trivial⟩, ⟨.inl rfl, trivial⟩⟩⟩⟩⟩
      · refine ax_Wp.go (f' := (24, [some (.ref 0), some (.int p0), some (.int p1), some (.int s1.1), some (.int s1.2)], [.int s1.2, .ref 0])) 2 rfl ?_
        refine cT.sp hD (fun x4 hx hD => ?_) (fun j5 hx hD => ?_)
        · refine ax_Wp.callE (f' := (27, [some (.ref 0), some (.int p0), some (.int p1), some (.int s1.1), some (.int s1.2)], [])) rfl rfl (w_94 (d := d + 0) hx) rfl ?_
          refine ax_Wp.go (f' := (28, [some (.ref 0), some (.int p0), some (.int p1), some (.int s1.1), some (.int s1.2)], [.int p1, .int x4])) 1 rfl ?_
          refine ax_Wp.brD hD rfl (fun _ hD => ?_) (fun _ hD => ?_)
          · refine ax_Wp.go (f' := (36, [some (.ref 0), some (.int p0), some (.int p1), some (.int s1.1), some (.int s1.2)], [.int (nI 0)])) 1 rfl ?_
            obtain rfl := inj hD
            exact ax_Wp.dead kkv3 ⟨.inl rfl, ⟨.inl rfl, ⟨.inl rfl, ⟨.inr ⟨rfl, trivial⟩, ⟨.inl rfl, trivial⟩⟩⟩⟩⟩
          · refine ax_Wp.go (f' := (36, [some (.ref 0), some (.int p0), some (.int p1), some (.int s1.1), some (.int s1.2)], [.int (nI 1)])) 2 rfl ?_
            obtain rfl := inj hD
            exact ax_Wp.dead kkv3 ⟨.inl rfl, ⟨.inl rfl, ⟨.inl rfl, ⟨.inr ⟨rfl, trivial⟩, ⟨.inl rfl, trivial⟩⟩⟩⟩⟩
        · cases hD
def D304 (m : dM) (p0 : Int32) (p1 : Int32) : Option (Int32) := Option.bind (lp (β := Int32) 3000 (fun (s1 : Int32 × Int32) => (D90 m).bind fun (x3 : Int32) => if x3 ≤ s1.2 then some (.inr s1.1) else Option.bind ((if s1.1 = (nI 0) then cT (D91 m s1.2) m (fun (x5 : Int32) => if x5 = p0 then cT (D92 m s1.2) m (fun (x8 : Int32) => if x8 = p1 then some (nI 1) else some (nI 0)) (fun (j9 : Nat) (m10 : dM) => none) else some (nI 0)) (fun (j6 : Nat) (m7 : dM) => none) else some (nI 1)) : Option (Int32)) fun (v4 : Int32) => some (.inl (v4, s1.2 + (nI 1)))) (nI 0, nI 0)) fun (v2 : Int32) => (gB v2).bind fun (b11 : Int32) => some b11
set_option maxRecDepth 20000 in
theorem w_304 {X : Nat × (Nat → Int32)} {d : Nat} {m : dM} {p0 : Int32} {p1 : Int32} {r : Int32} (hD : D304 m p0 p1 = some r) : ax_Ev X (d + 8) 113 [.ref 0, .int p0, .int p1] (stt m) (.inl (some (.int r))) (stt m) := by
  unfold D304 at hD
  show ax_Wp X (d + 7 + 1) 113 (0, [some (.ref 0), some (.int p0), some (.int p1), none, none], []) (stt m) _
  refine ax_Wp.go (f' := (5, [some (.ref 0), some (.int p0), some (.int p1), some (.int (nI 0)), some (.int (nI 0))], [])) 4 rfl ?_
  refine bnd hD (fun v2 hx hD => ?_)
  refine ax_Wp.jn (F := (50, [some (.ref 0), none, none, some (.int v2), none], [])) (hh := stt m) ?_ (fun kkv2 => ?_)
  · refine ax_Wp.go (f' := (51, [some (.ref 0), none, none, some (.int v2), none], [.int v2])) 1 rfl ?_
    refine ax_Wp.retB hD rfl (fun b11 hD => ?_)
    obtain rfl := inj hD
    exact ⟨rfl, rfl⟩
  clear hD
  refine ax_Wp.lpD (fun (s1 : Int32 × Int32) => ((5, [some (.ref 0), some (.int p0), some (.int p1), some (.int s1.1), some (.int s1.2)], []), stt m)) ?_ hx
  clear hx
  intro s1 v hD ks1
  refine ax_Wp.go (f' := (8, [some (.ref 0), some (.int p0), some (.int p1), some (.int s1.1), some (.int s1.2)], [.ref 0, .int s1.2])) 2 rfl ?_
  refine bnd hD (fun x3 hx hD => ?_)
  refine ax_Wp.callE (f' := (11, [some (.ref 0), some (.int p0), some (.int p1), some (.int s1.1), some (.int s1.2)], [.int s1.2])) rfl rfl (w_90 (d := d + 6) hx) rfl ?_
  refine ax_Wp.brD hD rfl (fun _ hD => ?_) (fun _ hD => ?_)
  · obtain rfl := inj hD
    obtain rfl := ks1.o
    exact ax_Wp.dead kkv2 ⟨.inl rfl, ⟨.inr ⟨rfl, trivial⟩, ⟨.inr ⟨rfl, trivial⟩, ⟨.inl rfl, ⟨.inr ⟨rfl, trivial⟩, trivial⟩⟩⟩⟩⟩
  · refine ax_Wp.go (f' := (15, [some (.ref 0), some (.int p0), some (.int p1), some (.int s1.1), some (.int s1.2)], [.int s1.1])) 1 rfl ?_
    refine bnd hD (fun v4 hx hD => ?_)
    refine ax_Wp.jn (F := (43, [some (.ref 0), some (.int p0), some (.int p1), none, some (.int s1.2)], [.int v4])) (hh := stt m) ?_ (fun kkv4 => ?_)
    · refine ax_Wp.go (f' := (5, [some (.ref 0), some (.int p0), some (.int p1), some (.int v4), some (.int (s1.2 + (nI 1)))], [])) 3 rfl ?_
      obtain rfl := inj hD
      exact ks1.i
    clear hD
    have hD := hx
    clear hx
    refine ax_Wp.brD hD rfl (fun _ hD => ?_) (fun _ hD => ?_)
    · refine ax_Wp.go (f' := (21, [some (.ref 0), some (.int p0), some (.int p1), some (.int s1.1), some (.int s1.2)], [.int s1.2, .ref 0])) 2 rfl ?_
      refine cT.sp hD (fun x5 hx hD => ?_) (fun j6 hx hD => ?_)
      · refine ax_Wp.callE (f' := (24, [some (.ref 0), some (.int p0), some (.int p1), some (.int s1.1), some (.int s1.2)], [])) rfl rfl (w_91 (d := d + 0) hx) rfl ?_
        refine ax_Wp.go (f' := (25, [some (.ref 0), some (.int p0), some (.int p1), some (.int s1.1), some (.int s1.2)], [.int p0, .int x5])) 1 rfl ?_
        refine ax_Wp.brD hD rfl (fun _ hD => ?_) (fun _ hD => ?_)
        · refine ax_Wp.go (f' := (31, [some (.ref 0), some (.int p0), some (.int p1), some (.int s1.1), some (.int s1.2)], [.int s1.2, .ref 0])) 2 rfl ?_
          refine cT.sp hD (fun x8 hx hD => ?_) (fun j9 hx hD => ?_)
          · refine ax_Wp.callE (f' := (34, [some (.ref 0), some (.int p0), some (.int p1), some (.int s1.1), some (.int s1.2)], [])) rfl rfl (w_92 (d := d + 0) hx) rfl ?_
            refine ax_Wp.go (f' := (35, [some (.ref 0), some (.int p0), some (.int p1), some (.int s1.1), some (.int s1.2)], [.int p1, .int x8])) 1 rfl ?_
            refine ax_Wp.brD hD rfl (fun _ hD => ?_) (fun _ hD => ?_)
            · refine ax_Wp.go (f' := (43, [some (.ref 0), some (.int p0), some (.int p1), some (.int s1.1), some (.int s1.2)], [.int (nI 1)])) 2 rfl ?_
              obtain rfl := inj hD
              exact ax_Wp.dead kkv4 ⟨.inl rfl, ⟨.inl rfl, ⟨.inl rfl, ⟨.inr ⟨rfl, trivial⟩, ⟨.inl rfl, trivial⟩⟩⟩⟩⟩
            · refine ax_Wp.go (f' := (43, [some (.ref 0), some (.int p0), some (.int p1), some (.int s1.1), some (.int s1.2)], [.int (nI 0)])) 1 rfl ?_
              obtain rfl := inj hD
              exact ax_Wp.dead kkv4 ⟨.inl rfl, ⟨.inl rfl, ⟨.inl rfl, ⟨.inr ⟨rfl, trivial⟩, ⟨.inl rfl, trivial⟩⟩⟩⟩⟩
          · cases hD
        · refine ax_Wp.go (f' := (43, [some (.ref 0), some (.int p0), some (.int p1), some (.int s1.1), some (.int s1.2)], [.int (nI 0)])) 1 rfl ?_
          obtain rfl := inj hD
          exact ax_Wp.dead kkv4 ⟨.inl rfl, ⟨.inl rfl, ⟨.inl rfl, ⟨.inr ⟨rfl, trivial⟩, ⟨.inl rfl, trivial⟩⟩⟩⟩⟩
      · cases hD
    · refine ax_Wp.go (f' := (43, [some (.ref 0), some (.int p0), some (.int p1), some (.int s1.1), some (.int s1.2)], [.int (nI 1)])) 2 rfl ?_
      obtain rfl := inj hD
      exact ax_Wp.dead kkv4 ⟨.inl rfl, ⟨.inl rfl, ⟨.inl rfl, ⟨.inr ⟨rfl, trivial⟩, ⟨.inl rfl, trivial⟩⟩⟩⟩⟩
def D303 (m : dM) (p0 : Int32) : Option (Int32 × dM) := Option.bind (lp (β := Int32 × dM) 3000 (fun (s1 : Int32 × Int32 × dM) => if (nI 4) ≤ s1.2.1 then some (.inr (s1.1, s1.2.2)) else (D90 s1.2.2).bind fun (x3 : Int32) => (D301 (p0 >>> (((nI 2) + s1.2.1) &&& nI 31)) x3).bind fun (x4 : Int32) => Option.bind (lp (β := Int32) 3000 (fun (s5 : Int32 × Int32) => (D90 s1.2.2).bind fun (x7 : Int32) => if x7 ≤ s5.2 then some (.inr s5.1) else cT (D118 s1.2.2 s1.2.1 s5.1) s1.2.2 (fun (x8 : Int32) => if x8 = (nI 0) then some (.inr s5.1) else (D90 s1.2.2).bind fun (x11 : Int32) => (gM (s5.1 + (nI 1)) x11).bind fun (x12 : Int32) => some (.inl (x12, s5.2 + (nI 1)))) (fun (j9 : Nat) (m10 : dM) => none)) (x4, nI 0)) fun (v6 : Int32) => cT (D118 s1.2.2 s1.2.1 v6) s1.2.2 (fun (x13 : Int32) => Option.bind ((if x13 = (nI 0) then cG (D77 s1.2.2 s1.2.1 v6) (fun (x17 : Int32) (m20 : dM) => cT (D92 m20 v6) m20 (fun (x21 : Int32) => if x17 = x21 then some (nI 1, m20) else some (nI 0, m20)) (fun (j22 : Nat) (m23 : dM) => none)) (fun (j18 : Nat) (m19 : dM) => none) else some (nI 0, s1.2.2)) : Option (Int32 × dM)) fun (v16 : Int32 × dM) => some (.inl (s1.1 + v16.1, s1.2.1 + (nI 1), v16.2))) (fun (j14 : Nat) (m15 : dM) => none)) (nI 0, nI 0, m)) fun (v2 : Int32 × dM) => some (v2.1, v2.2)
set_option maxRecDepth 20000 in
theorem w_303 {X : Nat × (Nat → Int32)} {d : Nat} {m : dM} {p0 : Int32} {r : Int32 × dM} (hD : D303 m p0 = some r) : ax_Ev X (d + 8) 112 [.ref 0, .int p0] (stt m) (.inl (some (.int r.1))) (stt r.2) := by
  unfold D303 at hD
  show ax_Wp X (d + 7 + 1) 112 (0, [some (.ref 0), some (.int p0), none, none, none, none], []) (stt m) _
  refine ax_Wp.go (f' := (4, [some (.ref 0), some (.int p0), some (.int (nI 0)), some (.int (nI 0)), none, none], [])) 4 rfl ?_
  refine bnd hD (fun v2 hx hD => ?_)
  refine ax_Wp.jn (F := (102, [some (.ref 0), none, some (.int v2.1), none, none, none], [])) (hh := stt v2.2) ?_ (fun kkv2 => ?_)
  · refine ax_Wp.go (f' := (103, [some (.ref 0), none, some (.int v2.1), none, none, none], [.int v2.1])) 1 rfl ?_
    obtain rfl := inj hD
    exact ax_Wp.ret rfl ⟨rfl, rfl⟩
  clear hD
  refine ax_Wp.lpD (fun (s1 : Int32 × Int32 × dM) => ((4, [some (.ref 0), some (.int p0), some (.int s1.1), some (.int s1.2.1), none, none], []), stt s1.2.2)) ?_ hx
  clear hx
  intro s1 v hD ks1
  refine ax_Wp.go (f' := (6, [some (.ref 0), some (.int p0), some (.int s1.1), some (.int s1.2.1), none, none], [.int (nI 4), .int s1.2.1])) 2 rfl ?_
  refine ax_Wp.brD hD rfl (fun _ hD => ?_) (fun _ hD => ?_)
  · obtain rfl := inj hD
    obtain rfl := ks1.o
    exact ax_Wp.dead kkv2 ⟨.inl rfl, ⟨.inr ⟨rfl, trivial⟩, ⟨.inl rfl, ⟨.inr ⟨rfl, trivial⟩, ⟨.inl rfl, ⟨.inl rfl, trivial⟩⟩⟩⟩⟩⟩
  · refine ax_Wp.go (f' := (15, [some (.ref 0), some (.int p0), some (.int s1.1), some (.int s1.2.1), none, none], [.ref 0, .int (p0 >>> (((nI 2) + s1.2.1) &&& nI 31))])) 6 rfl ?_
    refine bnd hD (fun x3 hx hD => ?_)
    refine ax_Wp.callE (f' := (18, [some (.ref 0), some (.int p0), some (.int s1.1), some (.int s1.2.1), none, none], [.int (p0 >>> (((nI 2) + s1.2.1) &&& nI 31))])) rfl rfl (w_90 (d := d + 6) hx) rfl ?_
    refine bnd hD (fun x4 hx hD => ?_)
    refine ax_Wp.callE (f' := (21, [some (.ref 0), some (.int p0), some (.int s1.1), some (.int s1.2.1), none, none], [])) rfl rfl (w_301 (d := d + 6) hx) rfl ?_
    refine ax_Wp.go (f' := (26, [some (.ref 0), some (.int p0), some (.int s1.1), some (.int s1.2.1), some (.int x4), some (.int (nI 0))], [])) 3 rfl ?_
    refine bnd hD (fun v6 hx hD => ?_)
    refine ax_Wp.jn (F := (62, [some (.ref 0), some (.int p0), some (.int s1.1), some (.int s1.2.1), some (.int v6), none], [])) (hh := stt s1.2.2) ?_ (fun kkv6 => ?_)
    · refine ax_Wp.go (f' := (67, [some (.ref 0), some (.int p0), some (.int s1.1), some (.int s1.2.1), some (.int v6), none], [.int v6, .int s1.2.1, .ref 0, .int s1.1])) 4 rfl ?_
      refine cT.sp hD (fun x13 hx hD => ?_) (fun j14 hx hD => ?_)
      · refine ax_Wp.callE (f' := (70, [some (.ref 0), some (.int p0), some (.int s1.1), some (.int s1.2.1), some (.int v6), none], [.int s1.1])) rfl rfl (w_118 (d := d + 0) hx) rfl ?_
        refine bnd hD (fun v16 hx hD => ?_)
        refine ax_Wp.jn (F := (94, [some (.ref 0), some (.int p0), none, some (.int s1.2.1), none, none], [.int v16.1, .int s1.1])) (hh := stt v16.2) ?_ (fun kkv16 => ?_)
        · refine ax_Wp.go (f' := (4, [some (.ref 0), some (.int p0), some (.int (s1.1 + v16.1)), some (.int (s1.2.1 + (nI 1))), none, none], [])) 4 rfl ?_
          obtain rfl := inj hD
          exact ks1.i
        clear hD
        have hD := hx
        clear hx
        refine ax_Wp.brD hD rfl (fun _ hD => ?_) (fun _ hD => ?_)
        · refine ax_Wp.go (f' := (77, [some (.ref 0), some (.int p0), some (.int s1.1), some (.int s1.2.1), some (.int v6), none], [.int v6, .int s1.2.1, .ref 0, .int s1.1])) 3 rfl ?_
          refine cG.sp hD (fun x17 m20 hx hD => ?_) (fun j18 m19 hx hD => ?_)
          · refine ax_Wp.callE (f' := (80, [some (.ref 0), some (.int p0), some (.int s1.1), some (.int s1.2.1), some (.int v6), none], [.int s1.1])) rfl rfl (w_77 (d := d + 0) hx) rfl ?_
            refine ax_Wp.go (f' := (83, [some (.ref 0), some (.int p0), some (.int s1.1), some (.int s1.2.1), some (.int v6), none], [.int v6, .ref 0, .int x17, .int s1.1])) 2 rfl ?_
            refine cT.sp hD (fun x21 hx hD => ?_) (fun j22 hx hD => ?_)
            · refine ax_Wp.callE (f' := (86, [some (.ref 0), some (.int p0), some (.int s1.1), some (.int s1.2.1), some (.int v6), none], [.int x17, .int s1.1])) rfl rfl (w_92 (d := d + 0) hx) rfl ?_
              refine ax_Wp.brD hD rfl (fun _ hD => ?_) (fun _ hD => ?_)
              · refine ax_Wp.go (f' := (94, [some (.ref 0), some (.int p0), some (.int s1.1), some (.int s1.2.1), some (.int v6), none], [.int (nI 1), .int s1.1])) 2 rfl ?_
                obtain rfl := inj hD
                exact ax_Wp.dead kkv16 ⟨.inl rfl, ⟨.inl rfl, ⟨.inr ⟨rfl, trivial⟩, ⟨.inl rfl, ⟨.inr ⟨rfl, trivial⟩, ⟨.inl rfl, trivial⟩⟩⟩⟩⟩⟩
              · refine ax_Wp.go (f' := (94, [some (.ref 0), some (.int p0), some (.int s1.1), some (.int s1.2.1), some (.int v6), none], [.int (nI 0), .int s1.1])) 1 rfl ?_
                obtain rfl := inj hD
                exact ax_Wp.dead kkv16 ⟨.inl rfl, ⟨.inl rfl, ⟨.inr ⟨rfl, trivial⟩, ⟨.inl rfl, ⟨.inr ⟨rfl, trivial⟩, ⟨.inl rfl, trivial⟩⟩⟩⟩⟩⟩
            · cases hD
          · cases hD
        · refine ax_Wp.go (f' := (94, [some (.ref 0), some (.int p0), some (.int s1.1), some (.int s1.2.1), some (.int v6), none], [.int (nI 0), .int s1.1])) 1 rfl ?_
          obtain rfl := inj hD
          exact ax_Wp.dead kkv16 ⟨.inl rfl, ⟨.inl rfl, ⟨.inr ⟨rfl, trivial⟩, ⟨.inl rfl, ⟨.inr ⟨rfl, trivial⟩, ⟨.inl rfl, trivial⟩⟩⟩⟩⟩⟩
      · cases hD
    clear hD
    refine ax_Wp.lpD (fun (s5 : Int32 × Int32) => ((26, [some (.ref 0), some (.int p0), some (.int s1.1), some (.int s1.2.1), some (.int s5.1), some (.int s5.2)], []), stt s1.2.2)) ?_ hx
    clear hx
    intro s5 v hD ks5
    refine ax_Wp.go (f' := (29, [some (.ref 0), some (.int p0), some (.int s1.1), some (.int s1.2.1), some (.int s5.1), some (.int s5.2)], [.ref 0, .int s5.2])) 2 rfl ?_
    refine bnd hD (fun x7 hx hD => ?_)
    refine ax_Wp.callE (f' := (32, [some (.ref 0), some (.int p0), some (.int s1.1), some (.int s1.2.1), some (.int s5.1), some (.int s5.2)], [.int s5.2])) rfl rfl (w_90 (d := d + 6) hx) rfl ?_
    refine ax_Wp.brD hD rfl (fun _ hD => ?_) (fun _ hD => ?_)
    · obtain rfl := inj hD
      obtain rfl := ks5.o
      exact ax_Wp.dead kkv6 ⟨.inl rfl, ⟨.inl rfl, ⟨.inl rfl, ⟨.inl rfl, ⟨.inl rfl, ⟨.inr ⟨rfl, trivial⟩, trivial⟩⟩⟩⟩⟩⟩
    · refine ax_Wp.go (f' := (39, [some (.ref 0), some (.int p0), some (.int s1.1), some (.int s1.2.1), some (.int s5.1), some (.int s5.2)], [.int s5.1, .int s1.2.1, .ref 0])) 3 rfl ?_
      refine cT.sp hD (fun x8 hx hD => ?_) (fun j9 hx hD => ?_)
      · refine ax_Wp.callE (f' := (42, [some (.ref 0), some (.int p0), some (.int s1.1), some (.int s1.2.1), some (.int s5.1), some (.int s5.2)], [])) rfl rfl (w_118 (d := d + 0) hx) rfl ?_
        refine ax_Wp.brD hD rfl (fun _ hD => ?_) (fun _ hD => ?_)
        · obtain rfl := inj hD
          obtain rfl := ks5.o
          exact ax_Wp.dead kkv6 ⟨.inl rfl, ⟨.inl rfl, ⟨.inl rfl, ⟨.inl rfl, ⟨.inl rfl, ⟨.inr ⟨rfl, trivial⟩, trivial⟩⟩⟩⟩⟩⟩
        · refine ax_Wp.go (f' := (50, [some (.ref 0), some (.int p0), some (.int s1.1), some (.int s1.2.1), some (.int s5.1), some (.int s5.2)], [.ref 0, .int (s5.1 + (nI 1))])) 4 rfl ?_
          refine bnd hD (fun x11 hx hD => ?_)
          refine ax_Wp.callE (f' := (53, [some (.ref 0), some (.int p0), some (.int s1.1), some (.int s1.2.1), some (.int s5.1), some (.int s5.2)], [.int (s5.1 + (nI 1))])) rfl rfl (w_90 (d := d + 6) hx) rfl ?_
          refine ax_Wp.rmD hD rfl (fun x12 hD => ?_)
          refine ax_Wp.go (f' := (26, [some (.ref 0), some (.int p0), some (.int s1.1), some (.int s1.2.1), some (.int x12), some (.int (s5.2 + (nI 1)))], [])) 3 rfl ?_
          obtain rfl := inj hD
          exact ks5.i
      · cases hD
def D302 (m : dM) (p0 : Int32) : Option (Int32 × dM) := (D301 (p0 >>> ((nI 4) &&& nI 31)) (nI 4)).bind fun (x1 : Int32) => (D301 (p0 >>> ((nI 6) &&& nI 31)) (nI 10)).bind fun (x2 : Int32) => (D301 (p0 >>> ((nI 4) &&& nI 31)) (nI 9)).bind fun (x3 : Int32) => (D90 m).bind fun (x4 : Int32) => if (p0 &&& (nI 15)) = nI 0 then Option.bind ((if x4 = (nI 24) then some (nI 0, m) else (D304 m x2 (((x2 + (nI 1)) + x3) - ((x2 + (nI 1)) + x3) / (nI 10) * (nI 10))).bind fun (x6 : Int32) => if x6 = (nI 0) then Option.bind ((if ((p0 >>> ((nI 9) &&& nI 31)) &&& (nI 3)) = (nI 0) then some (nI 1) else some (nI 0)) : Option (Int32)) fun (v7 : Int32) => cG (D70 m x2 (((x2 + (nI 1)) + x3) - ((x2 + (nI 1)) + x3) / (nI 10) * (nI 10)) v7) (fun (x8 : Int32) (m11 : dM) => some (x8, m11)) (fun (j9 : Nat) (m10 : dM) => none) else some (nI 0, m)) : Option (Int32 × dM)) fun (v5 : Int32 × dM) => some (v5.1, v5.2) else if (p0 &&& (nI 15)) = nI 1 then Option.bind ((if x4 = (nI 24) then some (nI 0, m) else (D304 m x2 (((x2 + (nI 1)) + x3) - ((x2 + (nI 1)) + x3) / (nI 10) * (nI 10))).bind fun (x13 : Int32) => if x13 = (nI 0) then Option.bind ((if ((p0 >>> ((nI 9) &&& nI 31)) &&& (nI 3)) = (nI 0) then some (nI 1) else some (nI 0)) : Option (Int32)) fun (v14 : Int32) => cG (D70 m x2 (((x2 + (nI 1)) + x3) - ((x2 + (nI 1)) + x3) / (nI 10) * (nI 10)) v14) (fun (x15 : Int32) (m18 : dM) => some (x15, m18)) (fun (j16 : Nat) (m17 : dM) => none) else some (nI 0, m)) : Option (Int32 × dM)) fun (v12 : Int32 × dM) => some (v12.1, v12.2) else if (p0 &&& (nI 15)) = nI 2 then Option.bind ((if x4 = (nI 24) then some (nI 0, m) else (D304 m x2 (((x2 + (nI 1)) + x3) - ((x2 + (nI 1)) + x3) / (nI 10) * (nI 10))).bind fun (x20 : Int32) => if x20 = (nI 0) then Option.bind ((if ((p0 >>> ((nI 9) &&& nI 31)) &&& (nI 3)) = (nI 0) then some (nI 1) else some (nI 0)) : Option (Int32)) fun (v21 : Int32) => cG (D70 m x2 (((x2 + (nI 1)) + x3) - ((x2 + (nI 1)) + x3) / (nI 10) * (nI 10)) v21) (fun (x22 : Int32) (m25 : dM) => some (x22, m25)) (fun (j23 : Nat) (m24 : dM) => none) else some (nI 0, m)) : Option (Int32 × dM)) fun (v19 : Int32 × dM) => some (v19.1, v19.2) else if (p0 &&& (nI 15)) = nI 3 then (D101 m).bind fun (x26 : Int32) => Option.bind ((if x26 = (nI 8) then some (nI 0, m) else (D301 (p0 >>> ((nI 5) &&& nI 31)) (nI 5)).bind fun (x28 : Int32) => (D301 (p0 >>> ((nI 7) &&& nI 31)) (nI 9)).bind fun (x29 : Int32) => cG (D75 m x2 (((x2 + (nI 1)) + x3) - ((x2 + (nI 1)) + x3) / (nI 10) * (nI 10)) ((nI 1) + x28) ((nI 1) + x29)) (fun (x30 : Int32) (m33 : dM) => some (x30, m33)) (fun (j31 : Nat) (m32 : dM) => none)) : Option (Int32 × dM)) fun (v27 : Int32 × dM) => some (v27.1, v27.2) else if (p0 &&& (nI 15)) = nI 4 then Option.bind ((if x4 = (nI 0) then some (nI 0, m) else (D301 (p0 >>> ((nI 4) &&& nI 31)) x4).bind fun (x35 : Int32) => cG (D71 m x35) (fun (x36 : Int32) (m39 : dM) => if x36 = (nI 0) then some (nI 0, m39) else some (nI 1, m39)) (fun (j37 : Nat) (m38 : dM) => none)) : Option (Int32 × dM)) fun (v34 : Int32 × dM) => some (v34.1, v34.2) else if (p0 &&& (nI 15)) = nI 5 then (D305 m x1 x2).bind fun (x40 : Int32) => Option.bind ((if x40 = (nI 0) then some (nI 0, m) else cG (D72 m x1 x2) (fun (x42 : Int32) (m45 : dM) => some (x42, m45)) (fun (j43 : Nat) (m44 : dM) => none)) : Option (Int32 × dM)) fun (v41 : Int32 × dM) => some (v41.1, v41.2) else if (p0 &&& (nI 15)) = nI 6 then cT (D95 m x1) m (fun (x46 : Int32) => Option.bind ((if x46 = (nI 0) then cG (D73 m x1) (fun (x50 : Int32) (m53 : dM) => if x50 = (nI 0) then some ((-1), m53) else some (nI 1, m53)) (fun (j51 : Nat) (m52 : dM) => none) else some (nI 0, m)) : Option (Int32 × dM)) fun (v49 : Int32 × dM) => some (v49.1, v49.2)) (fun (j47 : Nat) (m48 : dM) => none) else if (p0 &&& (nI 15)) = nI 7 then (D301 (p0 >>> ((nI 4) &&& nI 31)) (nI 51)).bind fun (x54 : Int32) => cG (D76 m ((nI 10) + x54)) (fun (x55 : Int32) (m58 : dM) => some (x55, m58)) (fun (j56 : Nat) (m57 : dM) => none) else if (p0 &&& (nI 15)) = nI 8 then (D112 m).bind fun (x59 : Int32) => Option.bind ((if x59 = (nI 0) then cG (D79 m) (fun (x61 : Int32) (m64 : dM) => some (x61, m64)) (fun (j62 : Nat) (m63 : dM) => none) else some (nI 0, m)) : Option (Int32 × dM)) fun (v60 : Int32 × dM) => some (v60.1, v60.2) else if (p0 &&& (nI 15)) = nI 9 then (D112 m).bind fun (x65 : Int32) => Option.bind ((if x65 = (nI 0) then cG (D79 m) (fun (x67 : Int32) (m70 : dM) => some (x67, m70)) (fun (j68 : Nat) (m69 : dM) => none) else some (nI 0, m)) : Option (Int32 × dM)) fun (v66 : Int32 × dM) => some (v66.1, v66.2) else if (p0 &&& (nI 15)) = nI 10 then cG (D78 m x1) (fun (x71 : Int32) (m74 : dM) => cT (D97 m74 x1) m74 (fun (x75 : Int32) => Option.bind ((if x71 = x75 then cT (D97 m74 x1) m74 (fun (x79 : Int32) => if x79 = (nI 0) then some (nI 0) else some (-1)) (fun (j80 : Nat) (m81 : dM) => none) else some (nI 0)) : Option (Int32)) fun (v78 : Int32) => some (v78, m74)) (fun (j76 : Nat) (m77 : dM) => none)) (fun (j72 : Nat) (m73 : dM) => none) else Option.bind ((if x4 = (nI 0) then some (nI 0, m) else (D303 m p0).bind fun (r83 : Int32 × dM) => some (r83.1, r83.2)) : Option (Int32 × dM)) fun (v82 : Int32 × dM) => some (v82.1, v82.2)
set_option maxRecDepth 20000 in
theorem w_302 {X : Nat × (Nat → Int32)} {d : Nat} {m : dM} {p0 : Int32} {r : Int32 × dM} (hD : D302 m p0 = some r) : ax_Ev X (d + 9) 111 [.ref 0, .int p0] (stt m) (.inl (some (.int r.1))) (stt r.2) := by
  unfold D302 at hD
  show ax_Wp X (d + 8 + 1) 111 (0, [some (.ref 0), some (.int p0), none, none, none, none], []) (stt m) _
  refine ax_Wp.go (f' := (4, [some (.ref 0), some (.int p0), none, none, none, none], [.int (nI 4), .int (p0 >>> ((nI 4) &&& nI 31))])) 4 rfl ?_
  refine bnd hD (fun x1 hx hD => ?_)
  refine ax_Wp.callE (f' := (7, [some (.ref 0), some (.int p0), none, none, none, none], [])) rfl rfl (w_301 (d := d + 7) hx) rfl ?_
  refine ax_Wp.go (f' := (14, [some (.ref 0), some (.int p0), some (.int x1), none, none, none], [.int (nI 10), .int (p0 >>> ((nI 6) &&& nI 31))])) 5 rfl ?_
  refine bnd hD (fun x2 hx hD => ?_)
  refine ax_Wp.callE (f' := (17, [some (.ref 0), some (.int p0), some (.int x1), none, none, none], [])) rfl rfl (w_301 (d := d + 7) hx) rfl ?_
  refine ax_Wp.go (f' := (26, [some (.ref 0), some (.int p0), some (.int x1), some (.int x2), none, none], [.int (nI 9), .int (p0 >>> ((nI 4) &&& nI 31)), .int (x2 + (nI 1))])) 8 rfl ?_
  refine bnd hD (fun x3 hx hD => ?_)
  refine ax_Wp.callE (f' := (29, [some (.ref 0), some (.int p0), some (.int x1), some (.int x2), none, none], [.int (x2 + (nI 1))])) rfl rfl (w_301 (d := d + 7) hx) rfl ?_
  refine ax_Wp.go (f' := (36, [some (.ref 0), some (.int p0), some (.int x1), some (.int x2), some (.int (((x2 + (nI 1)) + x3) - ((x2 + (nI 1)) + x3) / (nI 10) * (nI 10))), none], [.ref 0])) 5 rfl ?_
  refine bnd hD (fun x4 hx hD => ?_)
  refine ax_Wp.callE (f' := (39, [some (.ref 0), some (.int p0), some (.int x1), some (.int x2), some (.int (((x2 + (nI 1)) + x3) - ((x2 + (nI 1)) + x3) / (nI 10) * (nI 10))), none], [])) rfl rfl (w_90 (d := d + 7) hx) rfl ?_
  refine ax_Wp.go (f' := (45, [some (.ref 0), some (.int p0), some (.int x1), some (.int x2), some (.int (((x2 + (nI 1)) + x3) - ((x2 + (nI 1)) + x3) / (nI 10) * (nI 10))), some (.int x4)], [.int (p0 &&& (nI 15))])) 4 rfl ?_
  refine swD hD (fun q0 hD => ?_) (fun q0 hD => ?_)
  · refine ax_Wp.eqx q0 ?_
    refine ax_Wp.go (f' := (104, [some (.ref 0), some (.int p0), some (.int x1), some (.int x2), some (.int (((x2 + (nI 1)) + x3) - ((x2 + (nI 1)) + x3) / (nI 10) * (nI 10))), some (.int x4)], [])) 1 rfl ?_
    refine ax_Wp.go (f' := (108, [some (.ref 0), some (.int p0), some (.int x1), some (.int x2), some (.int (((x2 + (nI 1)) + x3) - ((x2 + (nI 1)) + x3) / (nI 10) * (nI 10))), some (.int x4)], [.int (nI 24), .int x4])) 2 rfl ?_
    refine bnd hD (fun v5 hx hD => ?_)
    refine ax_Wp.jn (F := (146, [some (.ref 0), none, none, none, none, none], [.int v5.1])) (hh := stt v5.2) ?_ (fun kkv5 => ?_)
    · obtain rfl := inj hD
      exact ax_Wp.ret rfl ⟨rfl, rfl⟩
    clear hD
    have hD := hx
    clear hx
    refine ax_Wp.brD hD rfl (fun _ hD => ?_) (fun _ hD => ?_)
    · refine ax_Wp.go (f' := (146, [some (.ref 0), some (.int p0), some (.int x1), some (.int x2), some (.int (((x2 + (nI 1)) + x3) - ((x2 + (nI 1)) + x3) / (nI 10) * (nI 10))), some (.int x4)], [.int (nI 0)])) 2 rfl ?_
      obtain rfl := inj hD
      exact ax_Wp.dead kkv5 ⟨.inl rfl, ⟨.inr ⟨rfl, trivial⟩, ⟨.inr ⟨rfl, trivial⟩, ⟨.inr ⟨rfl, trivial⟩, ⟨.inr ⟨rfl, trivial⟩, ⟨.inr ⟨rfl, trivial⟩, trivial⟩⟩⟩⟩⟩⟩
    · refine ax_Wp.go (f' := (115, [some (.ref 0), some (.int p0), some (.int x1), some (.int x2), some (.int (((x2 + (nI 1)) + x3) - ((x2 + (nI 1)) + x3) / (nI 10) * (nI 10))), some (.int x4)], [.int (((x2 + (nI 1)) + x3) - ((x2 + (nI 1)) + x3) / (nI 10) * (nI 10)), .int x2, .ref 0])) 3 rfl ?_
      refine bnd hD (fun x6 hx hD => ?_)
      refine ax_Wp.callE (f' := (118, [some (.ref 0), some (.int p0), some (.int x1), some (.int x2), some (.int (((x2 + (nI 1)) + x3) - ((x2 + (nI 1)) + x3) / (nI 10) * (nI 10))), some (.int x4)], [])) rfl rfl (w_304 (d := d + 0) hx) rfl ?_
      refine ax_Wp.brD hD rfl (fun _ hD => ?_) (fun _ hD => ?_)
      · refine ax_Wp.go (f' := (135, [some (.ref 0), some (.int p0), some (.int x1), some (.int x2), some (.int (((x2 + (nI 1)) + x3) - ((x2 + (nI 1)) + x3) / (nI 10) * (nI 10))), some (.int x4)], [.int ((p0 >>> ((nI 9) &&& nI 31)) &&& (nI 3)), .int (((x2 + (nI 1)) + x3) - ((x2 + (nI 1)) + x3) / (nI 10) * (nI 10)), .int x2, .ref 0])) 8 rfl ?_
        refine bnd hD (fun v7 hx hD => ?_)
        refine ax_Wp.jn (F := (143, [some (.ref 0), none, none, none, none, none], [.int v7, .int (((x2 + (nI 1)) + x3) - ((x2 + (nI 1)) + x3) / (nI 10) * (nI 10)), .int x2, .ref 0])) (hh := stt m) ?_ (fun kkv7 => ?_)
        · refine cG.sp hD (fun x8 m11 hx hD => ?_) (fun j9 m10 hx hD => ?_)
          · refine ax_Wp.callE (f' := (146, [some (.ref 0), none, none, none, none, none], [])) rfl rfl (w_70 (d := d + 1) hx) rfl ?_
            obtain rfl := inj hD
            exact kkv5
          · cases hD
        clear hD
        have hD := hx
        clear hx
        refine ax_Wp.brD hD rfl (fun _ hD => ?_) (fun _ hD => ?_)
        · refine ax_Wp.go (f' := (143, [some (.ref 0), some (.int p0), some (.int x1), some (.int x2), some (.int (((x2 + (nI 1)) + x3) - ((x2 + (nI 1)) + x3) / (nI 10) * (nI 10))), some (.int x4)], [.int (nI 1), .int (((x2 + (nI 1)) + x3) - ((x2 + (nI 1)) + x3) / (nI 10) * (nI 10)), .int x2, .ref 0])) 2 rfl ?_
          obtain rfl := inj hD
          exact ax_Wp.dead kkv7 ⟨.inl rfl, ⟨.inr ⟨rfl, trivial⟩, ⟨.inr ⟨rfl, trivial⟩, ⟨.inr ⟨rfl, trivial⟩, ⟨.inr ⟨rfl, trivial⟩, ⟨.inr ⟨rfl, trivial⟩, trivial⟩⟩⟩⟩⟩⟩
        · refine ax_Wp.go (f' := (143, [some (.ref 0), some (.int p0), some (.int x1), some (.int x2), some (.int (((x2 + (nI 1)) + x3) - ((x2 + (nI 1)) + x3) / (nI 10) * (nI 10))), some (.int x4)], [.int (nI 0), .int (((x2 + (nI 1)) + x3) - ((x2 + (nI 1)) + x3) / (nI 10) * (nI 10)), .int x2, .ref 0])) 1 rfl ?_
          obtain rfl := inj hD
          exact ax_Wp.dead kkv7 ⟨.inl rfl, ⟨.inr ⟨rfl, trivial⟩, ⟨.inr ⟨rfl, trivial⟩, ⟨.inr ⟨rfl, trivial⟩, ⟨.inr ⟨rfl, trivial⟩, ⟨.inr ⟨rfl, trivial⟩, trivial⟩⟩⟩⟩⟩⟩
      · refine ax_Wp.go (f' := (146, [some (.ref 0), some (.int p0), some (.int x1), some (.int x2), some (.int (((x2 + (nI 1)) + x3) - ((x2 + (nI 1)) + x3) / (nI 10) * (nI 10))), some (.int x4)], [.int (nI 0)])) 2 rfl ?_
        obtain rfl := inj hD
        exact ax_Wp.dead kkv5 ⟨.inl rfl, ⟨.inr ⟨rfl, trivial⟩, ⟨.inr ⟨rfl, trivial⟩, ⟨.inr ⟨rfl, trivial⟩, ⟨.inr ⟨rfl, trivial⟩, ⟨.inr ⟨rfl, trivial⟩, trivial⟩⟩⟩⟩⟩⟩
  refine swD hD (fun q1 hD => ?_) (fun q1 hD => ?_)
  · refine ax_Wp.eqx q1 ?_
    refine ax_Wp.go (f' := (104, [some (.ref 0), some (.int p0), some (.int x1), some (.int x2), some (.int (((x2 + (nI 1)) + x3) - ((x2 + (nI 1)) + x3) / (nI 10) * (nI 10))), some (.int x4)], [])) 1 rfl ?_
    refine ax_Wp.go (f' := (108, [some (.ref 0), some (.int p0), some (.int x1), some (.int x2), some (.int (((x2 + (nI 1)) + x3) - ((x2 + (nI 1)) + x3) / (nI 10) * (nI 10))), some (.int x4)], [.int (nI 24), .int x4])) 2 rfl ?_
    refine bnd hD (fun v12 hx hD => ?_)
    refine ax_Wp.jn (F := (146, [some (.ref 0), none, none, none, none, none], [.int v12.1])) (hh := stt v12.2) ?_ (fun kkv12 => ?_)
    · obtain rfl := inj hD
      exact ax_Wp.ret rfl ⟨rfl, rfl⟩
    clear hD
    have hD := hx
    clear hx
    refine ax_Wp.brD hD rfl (fun _ hD => ?_) (fun _ hD => ?_)
    · refine ax_Wp.go (f' := (146, [some (.ref 0), some (.int p0), some (.int x1), some (.int x2), some (.int (((x2 + (nI 1)) + x3) - ((x2 + (nI 1)) + x3) / (nI 10) * (nI 10))), some (.int x4)], [.int (nI 0)])) 2 rfl ?_
      obtain rfl := inj hD
      exact ax_Wp.dead kkv12 ⟨.inl rfl, ⟨.inr ⟨rfl, trivial⟩, ⟨.inr ⟨rfl, trivial⟩, ⟨.inr ⟨rfl, trivial⟩, ⟨.inr ⟨rfl, trivial⟩, ⟨.inr ⟨rfl, trivial⟩, trivial⟩⟩⟩⟩⟩⟩
    · refine ax_Wp.go (f' := (115, [some (.ref 0), some (.int p0), some (.int x1), some (.int x2), some (.int (((x2 + (nI 1)) + x3) - ((x2 + (nI 1)) + x3) / (nI 10) * (nI 10))), some (.int x4)], [.int (((x2 + (nI 1)) + x3) - ((x2 + (nI 1)) + x3) / (nI 10) * (nI 10)), .int x2, .ref 0])) 3 rfl ?_
      refine bnd hD (fun x13 hx hD => ?_)
      refine ax_Wp.callE (f' := (118, [some (.ref 0), some (.int p0), some (.int x1), some (.int x2), some (.int (((x2 + (nI 1)) + x3) - ((x2 + (nI 1)) + x3) / (nI 10) * (nI 10))), some (.int x4)], [])) rfl rfl (w_304 (d := d + 0) hx) rfl ?_
      refine ax_Wp.brD hD rfl (fun _ hD => ?_) (fun _ hD => ?_)
      · refine ax_Wp.go (f' := (135, [some (.ref 0), some (.int p0), some (.int x1), some (.int x2), some (.int (((x2 + (nI 1)) + x3) - ((x2 + (nI 1)) + x3) / (nI 10) * (nI 10))), some (.int x4)], [.int ((p0 >>> ((nI 9) &&& nI 31)) &&& (nI 3)), .int (((x2 + (nI 1)) + x3) - ((x2 + (nI 1)) + x3) / (nI 10) * (nI 10)), .int x2, .ref 0])) 8 rfl ?_
        refine bnd hD (fun v14 hx hD => ?_)
        refine ax_Wp.jn (F := (143, [some (.ref 0), none, none, none, none, none], [.int v14, .int (((x2 + (nI 1)) + x3) - ((x2 + (nI 1)) + x3) / (nI 10) * (nI 10)), .int x2, .ref 0])) (hh := stt m) ?_ (fun kkv14 => ?_)
        · refine cG.sp hD (fun x15 m18 hx hD => ?_) (fun j16 m17 hx hD => ?_)
          · refine ax_Wp.callE (f' := (146, [some (.ref 0), none, none, none, none, none], [])) rfl rfl (w_70 (d := d + 1) hx) rfl ?_
            obtain rfl := inj hD
            exact kkv12
          · cases hD
        clear hD
        have hD := hx
        clear hx
        refine ax_Wp.brD hD rfl (fun _ hD => ?_) (fun _ hD => ?_)
        · refine ax_Wp.go (f' := (143, [some (.ref 0), some (.int p0), some (.int x1), some (.int x2), some (.int (((x2 + (nI 1)) + x3) - ((x2 + (nI 1)) + x3) / (nI 10) * (nI 10))), some (.int x4)], [.int (nI 1), .int (((x2 + (nI 1)) + x3) - ((x2 + (nI 1)) + x3) / (nI 10) * (nI 10)), .int x2, .ref 0])) 2 rfl ?_
          obtain rfl := inj hD
          exact ax_Wp.dead kkv14 ⟨.inl rfl, ⟨.inr ⟨rfl, trivial⟩, ⟨.inr ⟨rfl, trivial⟩, ⟨.inr ⟨rfl, trivial⟩, ⟨.inr ⟨rfl, trivial⟩, ⟨.inr ⟨rfl, trivial⟩, trivial⟩⟩⟩⟩⟩⟩
        · refine ax_Wp.go (f' := (143, [some (.ref 0), some (.int p0), some (.int x1), some (.int x2), some (.int (((x2 + (nI 1)) + x3) - ((x2 + (nI 1)) + x3) / (nI 10) * (nI 10))), some (.int x4)], [.int (nI 0), .int (((x2 + (nI 1)) + x3) - ((x2 + (nI 1)) + x3) / (nI 10) * (nI 10)), .int x2, .ref 0])) 1 rfl ?_
          obtain rfl := inj hD
          exact ax_Wp.dead kkv14 ⟨.inl rfl, ⟨.inr ⟨rfl, trivial⟩, ⟨.inr ⟨rfl, trivial⟩, ⟨.inr ⟨rfl, trivial⟩, ⟨.inr ⟨rfl, trivial⟩, ⟨.inr ⟨rfl, trivial⟩, trivial⟩⟩⟩⟩⟩⟩
      · refine ax_Wp.go (f' := (146, [some (.ref 0), some (.int p0), some (.int x1), some (.int x2), some (.int (((x2 + (nI 1)) + x3) - ((x2 + (nI 1)) + x3) / (nI 10) * (nI 10))), some (.int x4)], [.int (nI 0)])) 2 rfl ?_
        obtain rfl := inj hD
        exact ax_Wp.dead kkv12 ⟨.inl rfl, ⟨.inr ⟨rfl, trivial⟩, ⟨.inr ⟨rfl, trivial⟩, ⟨.inr ⟨rfl, trivial⟩, ⟨.inr ⟨rfl, trivial⟩, ⟨.inr ⟨rfl, trivial⟩, trivial⟩⟩⟩⟩⟩⟩
  refine swD hD (fun q2 hD => ?_) (fun q2 hD => ?_)
  · refine ax_Wp.eqx q2 ?_
    refine ax_Wp.go (f' := (104, [some (.ref 0), some (.int p0), some (.int x1), some (.int x2), some (.int (((x2 + (nI 1)) + x3) - ((x2 + (nI 1)) + x3) / (nI 10) * (nI 10))), some (.int x4)], [])) 1 rfl ?_
    refine ax_Wp.go (f' := (108, [some (.ref 0), some (.int p0), some (.int x1), some (.int x2), some (.int (((x2 + (nI 1)) + x3) - ((x2 + (nI 1)) + x3) / (nI 10) * (nI 10))), some (.int x4)], [.int (nI 24), .int x4])) 2 rfl ?_
    refine bnd hD (fun v19 hx hD => ?_)
    refine ax_Wp.jn (F := (146, [some (.ref 0), none, none, none, none, none], [.int v19.1])) (hh := stt v19.2) ?_ (fun kkv19 => ?_)
    · obtain rfl := inj hD
      exact ax_Wp.ret rfl ⟨rfl, rfl⟩
    clear hD
    have hD := hx
    clear hx
    refine ax_Wp.brD hD rfl (fun _ hD => ?_) (fun _ hD => ?_)
    · refine ax_Wp.go (f' := (146, [some (.ref 0), some (.int p0), some (.int x1), some (.int x2), some (.int (((x2 + (nI 1)) + x3) - ((x2 + (nI 1)) + x3) / (nI 10) * (nI 10))), some (.int x4)], [.int (nI 0)])) 2 rfl ?_
      obtain rfl := inj hD
      exact ax_Wp.dead kkv19 ⟨.inl rfl, ⟨.inr ⟨rfl, trivial⟩, ⟨.inr ⟨rfl, trivial⟩, ⟨.inr ⟨rfl, trivial⟩, ⟨.inr ⟨rfl, trivial⟩, ⟨.inr ⟨rfl, trivial⟩, trivial⟩⟩⟩⟩⟩⟩
    · refine ax_Wp.go (f' := (115, [some (.ref 0), some (.int p0), some (.int x1), some (.int x2), some (.int (((x2 + (nI 1)) + x3) - ((x2 + (nI 1)) + x3) / (nI 10) * (nI 10))), some (.int x4)], [.int (((x2 + (nI 1)) + x3) - ((x2 + (nI 1)) + x3) / (nI 10) * (nI 10)), .int x2, .ref 0])) 3 rfl ?_
      refine bnd hD (fun x20 hx hD => ?_)
      refine ax_Wp.callE (f' := (118, [some (.ref 0), some (.int p0), some (.int x1), some (.int x2), some (.int (((x2 + (nI 1)) + x3) - ((x2 + (nI 1)) + x3) / (nI 10) * (nI 10))), some (.int x4)], [])) rfl rfl (w_304 (d := d + 0) hx) rfl ?_
      refine ax_Wp.brD hD rfl (fun _ hD => ?_) (fun _ hD => ?_)
      · refine ax_Wp.go (f' := (135, [some (.ref 0), some (.int p0), some (.int x1), some (.int x2), some (.int (((x2 + (nI 1)) + x3) - ((x2 + (nI 1)) + x3) / (nI 10) * (nI 10))), some (.int x4)], [.int ((p0 >>> ((nI 9) &&& nI 31)) &&& (nI 3)), .int (((x2 + (nI 1)) + x3) - ((x2 + (nI 1)) + x3) / (nI 10) * (nI 10)), .int x2, .ref 0])) 8 rfl ?_
        refine bnd hD (fun v21 hx hD => ?_)
        refine ax_Wp.jn (F := (143, [some (.ref 0), none, none, none, none, none], [.int v21, .int (((x2 + (nI 1)) + x3) - ((x2 + (nI 1)) + x3) / (nI 10) * (nI 10)), .int x2, .ref 0])) (hh := stt m) ?_ (fun kkv21 => ?_)
        · refine cG.sp hD (fun x22 m25 hx hD => ?_) (fun j23 m24 hx hD => ?_)
          · refine ax_Wp.callE (f' := (146, [some (.ref 0), none, none, none, none, none], [])) rfl rfl (w_70 (d := d + 1) hx) rfl ?_
            obtain rfl := inj hD
            exact kkv19
          · cases hD
        clear hD
        have hD := hx
        clear hx
        refine ax_Wp.brD hD rfl (fun _ hD => ?_) (fun _ hD => ?_)
        · refine ax_Wp.go (f' := (143, [some (.ref 0), some (.int p0), some (.int x1), some (.int x2), some (.int (((x2 + (nI 1)) + x3) - ((x2 + (nI 1)) + x3) / (nI 10) * (nI 10))), some (.int x4)], [.int (nI 1), .int (((x2 + (nI 1)) + x3) - ((x2 + (nI 1)) + x3) / (nI 10) * (nI 10)), .int x2, .ref 0])) 2 rfl ?_
          obtain rfl := inj hD
          exact ax_Wp.dead kkv21 ⟨.inl rfl, ⟨.inr ⟨rfl, trivial⟩, ⟨.inr ⟨rfl, trivial⟩, ⟨.inr ⟨rfl, trivial⟩, ⟨.inr ⟨rfl, trivial⟩, ⟨.inr ⟨rfl, trivial⟩, trivial⟩⟩⟩⟩⟩⟩
        · refine ax_Wp.go (f' := (143, [some (.ref 0), some (.int p0), some (.int x1), some (.int x2), some (.int (((x2 + (nI 1)) + x3) - ((x2 + (nI 1)) + x3) / (nI 10) * (nI 10))), some (.int x4)], [.int (nI 0), .int (((x2 + (nI 1)) + x3) - ((x2 + (nI 1)) + x3) / (nI 10) * (nI 10)), .int x2, .ref 0])) 1 rfl ?_
          obtain rfl := inj hD
          exact ax_Wp.dead kkv21 ⟨.inl rfl, ⟨.inr ⟨rfl, trivial⟩, ⟨.inr ⟨rfl, trivial⟩, ⟨.inr ⟨rfl, trivial⟩, ⟨.inr ⟨rfl, trivial⟩, ⟨.inr ⟨rfl, trivial⟩, trivial⟩⟩⟩⟩⟩⟩
      · refine ax_Wp.go (f' := (146, [some (.ref 0), some (.int p0), some (.int x1), some (.int x2), some (.int (((x2 + (nI 1)) + x3) - ((x2 + (nI 1)) + x3) / (nI 10) * (nI 10))), some (.int x4)], [.int (nI 0)])) 2 rfl ?_
        obtain rfl := inj hD
        exact ax_Wp.dead kkv19 ⟨.inl rfl, ⟨.inr ⟨rfl, trivial⟩, ⟨.inr ⟨rfl, trivial⟩, ⟨.inr ⟨rfl, trivial⟩, ⟨.inr ⟨rfl, trivial⟩, ⟨.inr ⟨rfl, trivial⟩, trivial⟩⟩⟩⟩⟩⟩
  refine swD hD (fun q3 hD => ?_) (fun q3 hD => ?_)
  · refine ax_Wp.eqx q3 ?_
    refine ax_Wp.go (f' := (147, [some (.ref 0), some (.int p0), some (.int x1), some (.int x2), some (.int (((x2 + (nI 1)) + x3) - ((x2 + (nI 1)) + x3) / (nI 10) * (nI 10))), some (.int x4)], [])) 1 rfl ?_
    refine ax_Wp.go (f' := (148, [some (.ref 0), some (.int p0), some (.int x1), some (.int x2), some (.int (((x2 + (nI 1)) + x3) - ((x2 + (nI 1)) + x3) / (nI 10) * (nI 10))), some (.int x4)], [.ref 0])) 1 rfl ?_
    refine bnd hD (fun x26 hx hD => ?_)
    refine ax_Wp.callE (f' := (151, [some (.ref 0), some (.int p0), some (.int x1), some (.int x2), some (.int (((x2 + (nI 1)) + x3) - ((x2 + (nI 1)) + x3) / (nI 10) * (nI 10))), some (.int x4)], [])) rfl rfl (w_101 (d := d + 7) hx) rfl ?_
    refine ax_Wp.go (f' := (153, [some (.ref 0), some (.int p0), some (.int x1), some (.int x2), some (.int (((x2 + (nI 1)) + x3) - ((x2 + (nI 1)) + x3) / (nI 10) * (nI 10))), some (.int x4)], [.int (nI 8), .int x26])) 1 rfl ?_
    refine bnd hD (fun v27 hx hD => ?_)
    refine ax_Wp.jn (F := (187, [some (.ref 0), none, none, none, none, none], [.int v27.1])) (hh := stt v27.2) ?_ (fun kkv27 => ?_)
    · obtain rfl := inj hD
      exact ax_Wp.ret rfl ⟨rfl, rfl⟩
    clear hD
    have hD := hx
    clear hx
    refine ax_Wp.brD hD rfl (fun _ hD => ?_) (fun _ hD => ?_)
    · refine ax_Wp.go (f' := (187, [some (.ref 0), some (.int p0), some (.int x1), some (.int x2), some (.int (((x2 + (nI 1)) + x3) - ((x2 + (nI 1)) + x3) / (nI 10) * (nI 10))), some (.int x4)], [.int (nI 0)])) 2 rfl ?_
      obtain rfl := inj hD
      exact ax_Wp.dead kkv27 ⟨.inl rfl, ⟨.inr ⟨rfl, trivial⟩, ⟨.inr ⟨rfl, trivial⟩, ⟨.inr ⟨rfl, trivial⟩, ⟨.inr ⟨rfl, trivial⟩, ⟨.inr ⟨rfl, trivial⟩, trivial⟩⟩⟩⟩⟩⟩
    · refine ax_Wp.go (f' := (169, [some (.ref 0), some (.int p0), some (.int x1), some (.int x2), some (.int (((x2 + (nI 1)) + x3) - ((x2 + (nI 1)) + x3) / (nI 10) * (nI 10))), some (.int x4)], [.int (nI 5), .int (p0 >>> ((nI 5) &&& nI 31)), .int (nI 1), .int (((x2 + (nI 1)) + x3) - ((x2 + (nI 1)) + x3) / (nI 10) * (nI 10)), .int x2, .ref 0])) 8 rfl ?_
      refine bnd hD (fun x28 hx hD => ?_)
      refine ax_Wp.callE (f' := (172, [some (.ref 0), some (.int p0), some (.int x1), some (.int x2), some (.int (((x2 + (nI 1)) + x3) - ((x2 + (nI 1)) + x3) / (nI 10) * (nI 10))), some (.int x4)], [.int (nI 1), .int (((x2 + (nI 1)) + x3) - ((x2 + (nI 1)) + x3) / (nI 10) * (nI 10)), .int x2, .ref 0])) rfl rfl (w_301 (d := d + 7) hx) rfl ?_
      refine ax_Wp.go (f' := (180, [some (.ref 0), some (.int p0), some (.int x1), some (.int x2), some (.int (((x2 + (nI 1)) + x3) - ((x2 + (nI 1)) + x3) / (nI 10) * (nI 10))), some (.int x4)], [.int (nI 9), .int (p0 >>> ((nI 7) &&& nI 31)), .int (nI 1), .int ((nI 1) + x28), .int (((x2 + (nI 1)) + x3) - ((x2 + (nI 1)) + x3) / (nI 10) * (nI 10)), .int x2, .ref 0])) 6 rfl ?_
      refine bnd hD (fun x29 hx hD => ?_)
      refine ax_Wp.callE (f' := (183, [some (.ref 0), some (.int p0), some (.int x1), some (.int x2), some (.int (((x2 + (nI 1)) + x3) - ((x2 + (nI 1)) + x3) / (nI 10) * (nI 10))), some (.int x4)], [.int (nI 1), .int ((nI 1) + x28), .int (((x2 + (nI 1)) + x3) - ((x2 + (nI 1)) + x3) / (nI 10) * (nI 10)), .int x2, .ref 0])) rfl rfl (w_301 (d := d + 7) hx) rfl ?_
      refine ax_Wp.go (f' := (184, [some (.ref 0), some (.int p0), some (.int x1), some (.int x2), some (.int (((x2 + (nI 1)) + x3) - ((x2 + (nI 1)) + x3) / (nI 10) * (nI 10))), some (.int x4)], [.int ((nI 1) + x29), .int ((nI 1) + x28), .int (((x2 + (nI 1)) + x3) - ((x2 + (nI 1)) + x3) / (nI 10) * (nI 10)), .int x2, .ref 0])) 1 rfl ?_
      refine cG.sp hD (fun x30 m33 hx hD => ?_) (fun j31 m32 hx hD => ?_)
      · refine ax_Wp.callE (f' := (187, [some (.ref 0), some (.int p0), some (.int x1), some (.int x2), some (.int (((x2 + (nI 1)) + x3) - ((x2 + (nI 1)) + x3) / (nI 10) * (nI 10))), some (.int x4)], [])) rfl rfl (w_75 (d := d + 1) hx) rfl ?_
        obtain rfl := inj hD
        exact ax_Wp.dead kkv27 ⟨.inl rfl, ⟨.inr ⟨rfl, trivial⟩, ⟨.inr ⟨rfl, trivial⟩, ⟨.inr ⟨rfl, trivial⟩, ⟨.inr ⟨rfl, trivial⟩, ⟨.inr ⟨rfl, trivial⟩, trivial⟩⟩⟩⟩⟩⟩
      · cases hD
  refine swD hD (fun q4 hD => ?_) (fun q4 hD => ?_)
  · refine ax_Wp.eqx q4 ?_
    refine ax_Wp.go (f' := (188, [some (.ref 0), some (.int p0), some (.int x1), some (.int x2), some (.int (((x2 + (nI 1)) + x3) - ((x2 + (nI 1)) + x3) / (nI 10) * (nI 10))), some (.int x4)], [])) 1 rfl ?_
    refine ax_Wp.go (f' := (190, [some (.ref 0), some (.int p0), some (.int x1), some (.int x2), some (.int (((x2 + (nI 1)) + x3) - ((x2 + (nI 1)) + x3) / (nI 10) * (nI 10))), some (.int x4)], [.int x4])) 1 rfl ?_
    refine bnd hD (fun v34 hx hD => ?_)
    refine ax_Wp.jn (F := (217, [some (.ref 0), none, none, none, none, none], [.int v34.1])) (hh := stt v34.2) ?_ (fun kkv34 => ?_)
    · obtain rfl := inj hD
      exact ax_Wp.ret rfl ⟨rfl, rfl⟩
    clear hD
    have hD := hx
    clear hx
    refine ax_Wp.brD hD rfl (fun _ hD => ?_) (fun _ hD => ?_)
    · refine ax_Wp.go (f' := (217, [some (.ref 0), some (.int p0), some (.int x1), some (.int x2), some (.int (((x2 + (nI 1)) + x3) - ((x2 + (nI 1)) + x3) / (nI 10) * (nI 10))), some (.int x4)], [.int (nI 0)])) 2 rfl ?_
      obtain rfl := inj hD
      exact ax_Wp.dead kkv34 ⟨.inl rfl, ⟨.inr ⟨rfl, trivial⟩, ⟨.inr ⟨rfl, trivial⟩, ⟨.inr ⟨rfl, trivial⟩, ⟨.inr ⟨rfl, trivial⟩, ⟨.inr ⟨rfl, trivial⟩, trivial⟩⟩⟩⟩⟩⟩
    · refine ax_Wp.go (f' := (203, [some (.ref 0), some (.int p0), some (.int x1), some (.int x2), some (.int (((x2 + (nI 1)) + x3) - ((x2 + (nI 1)) + x3) / (nI 10) * (nI 10))), some (.int x4)], [.int x4, .int (p0 >>> ((nI 4) &&& nI 31)), .ref 0])) 5 rfl ?_
      refine bnd hD (fun x35 hx hD => ?_)
      refine ax_Wp.callE (f' := (206, [some (.ref 0), some (.int p0), some (.int x1), some (.int x2), some (.int (((x2 + (nI 1)) + x3) - ((x2 + (nI 1)) + x3) / (nI 10) * (nI 10))), some (.int x4)], [.ref 0])) rfl rfl (w_301 (d := d + 7) hx) rfl ?_
      refine cG.sp hD (fun x36 m39 hx hD => ?_) (fun j37 m38 hx hD => ?_)
      · refine ax_Wp.callE (f' := (209, [some (.ref 0), some (.int p0), some (.int x1), some (.int x2), some (.int (((x2 + (nI 1)) + x3) - ((x2 + (nI 1)) + x3) / (nI 10) * (nI 10))), some (.int x4)], [])) rfl rfl (w_71 (d := d + 1) hx) rfl ?_
        refine ax_Wp.brD hD rfl (fun _ hD => ?_) (fun _ hD => ?_)
        · refine ax_Wp.go (f' := (217, [some (.ref 0), some (.int p0), some (.int x1), some (.int x2), some (.int (((x2 + (nI 1)) + x3) - ((x2 + (nI 1)) + x3) / (nI 10) * (nI 10))), some (.int x4)], [.int (nI 0)])) 1 rfl ?_
          obtain rfl := inj hD
          exact ax_Wp.dead kkv34 ⟨.inl rfl, ⟨.inr ⟨rfl, trivial⟩, ⟨.inr ⟨rfl, trivial⟩, ⟨.inr ⟨rfl, trivial⟩, ⟨.inr ⟨rfl, trivial⟩, ⟨.inr ⟨rfl, trivial⟩, trivial⟩⟩⟩⟩⟩⟩
        · refine ax_Wp.go (f' := (217, [some (.ref 0), some (.int p0), some (.int x1), some (.int x2), some (.int (((x2 + (nI 1)) + x3) - ((x2 + (nI 1)) + x3) / (nI 10) * (nI 10))), some (.int x4)], [.int (nI 1)])) 2 rfl ?_
          obtain rfl := inj hD
          exact ax_Wp.dead kkv34 ⟨.inl rfl, ⟨.inr ⟨rfl, trivial⟩, ⟨.inr ⟨rfl, trivial⟩, ⟨.inr ⟨rfl, trivial⟩, ⟨.inr ⟨rfl, trivial⟩, ⟨.inr ⟨rfl, trivial⟩, trivial⟩⟩⟩⟩⟩⟩
      · cases hD
  refine swD hD (fun q5 hD => ?_) (fun q5 hD => ?_)
  · refine ax_Wp.eqx q5 ?_
    refine ax_Wp.go (f' := (218, [some (.ref 0), some (.int p0), some (.int x1), some (.int x2), some (.int (((x2 + (nI 1)) + x3) - ((x2 + (nI 1)) + x3) / (nI 10) * (nI 10))), some (.int x4)], [])) 1 rfl ?_
    refine ax_Wp.go (f' := (221, [some (.ref 0), some (.int p0), some (.int x1), some (.int x2), some (.int (((x2 + (nI 1)) + x3) - ((x2 + (nI 1)) + x3) / (nI 10) * (nI 10))), some (.int x4)], [.int x2, .int x1, .ref 0])) 3 rfl ?_
    refine bnd hD (fun x40 hx hD => ?_)
    refine ax_Wp.callE (f' := (224, [some (.ref 0), some (.int p0), some (.int x1), some (.int x2), some (.int (((x2 + (nI 1)) + x3) - ((x2 + (nI 1)) + x3) / (nI 10) * (nI 10))), some (.int x4)], [])) rfl rfl (w_305 (d := d + 0) hx) rfl ?_
    refine bnd hD (fun v41 hx hD => ?_)
    refine ax_Wp.jn (F := (237, [some (.ref 0), none, none, none, none, none], [.int v41.1])) (hh := stt v41.2) ?_ (fun kkv41 => ?_)
    · obtain rfl := inj hD
      exact ax_Wp.ret rfl ⟨rfl, rfl⟩
    clear hD
    have hD := hx
    clear hx
    refine ax_Wp.brD hD rfl (fun _ hD => ?_) (fun _ hD => ?_)
    · refine ax_Wp.go (f' := (237, [some (.ref 0), some (.int p0), some (.int x1), some (.int x2), some (.int (((x2 + (nI 1)) + x3) - ((x2 + (nI 1)) + x3) / (nI 10) * (nI 10))), some (.int x4)], [.int (nI 0)])) 1 rfl ?_
      obtain rfl := inj hD
      exact ax_Wp.dead kkv41 ⟨.inl rfl, ⟨.inr ⟨rfl, trivial⟩, ⟨.inr ⟨rfl, trivial⟩, ⟨.inr ⟨rfl, trivial⟩, ⟨.inr ⟨rfl, trivial⟩, ⟨.inr ⟨rfl, trivial⟩, trivial⟩⟩⟩⟩⟩⟩
    · refine ax_Wp.go (f' := (230, [some (.ref 0), some (.int p0), some (.int x1), some (.int x2), some (.int (((x2 + (nI 1)) + x3) - ((x2 + (nI 1)) + x3) / (nI 10) * (nI 10))), some (.int x4)], [.int x2, .int x1, .ref 0])) 3 rfl ?_
      refine cG.sp hD (fun x42 m45 hx hD => ?_) (fun j43 m44 hx hD => ?_)
      · refine ax_Wp.callE (f' := (233, [some (.ref 0), some (.int p0), some (.int x1), some (.int x2), some (.int (((x2 + (nI 1)) + x3) - ((x2 + (nI 1)) + x3) / (nI 10) * (nI 10))), some (.int x4)], [])) rfl rfl (w_72 (d := d + 1) hx) rfl ?_
        refine ax_Wp.go (f' := (237, [some (.ref 0), some (.int p0), some (.int x1), some (.int x2), some (.int (((x2 + (nI 1)) + x3) - ((x2 + (nI 1)) + x3) / (nI 10) * (nI 10))), some (.int x4)], [.int x42])) 1 rfl ?_
        obtain rfl := inj hD
        exact ax_Wp.dead kkv41 ⟨.inl rfl, ⟨.inr ⟨rfl, trivial⟩, ⟨.inr ⟨rfl, trivial⟩, ⟨.inr ⟨rfl, trivial⟩, ⟨.inr ⟨rfl, trivial⟩, ⟨.inr ⟨rfl, trivial⟩, trivial⟩⟩⟩⟩⟩⟩
      · cases hD
  refine swD hD (fun q6 hD => ?_) (fun q6 hD => ?_)
  · refine ax_Wp.eqx q6 ?_
    refine ax_Wp.go (f' := (238, [some (.ref 0), some (.int p0), some (.int x1), some (.int x2), some (.int (((x2 + (nI 1)) + x3) - ((x2 + (nI 1)) + x3) / (nI 10) * (nI 10))), some (.int x4)], [])) 1 rfl ?_
    refine ax_Wp.go (f' := (240, [some (.ref 0), some (.int p0), some (.int x1), some (.int x2), some (.int (((x2 + (nI 1)) + x3) - ((x2 + (nI 1)) + x3) / (nI 10) * (nI 10))), some (.int x4)], [.int x1, .ref 0])) 2 rfl ?_
    refine cT.sp hD (fun x46 hx hD => ?_) (fun j47 hx hD => ?_)
    · refine ax_Wp.callE (f' := (243, [some (.ref 0), some (.int p0), some (.int x1), some (.int x2), some (.int (((x2 + (nI 1)) + x3) - ((x2 + (nI 1)) + x3) / (nI 10) * (nI 10))), some (.int x4)], [])) rfl rfl (w_95 (d := d + 1) hx) rfl ?_
      refine bnd hD (fun v49 hx hD => ?_)
      refine ax_Wp.jn (F := (263, [some (.ref 0), none, none, none, none, none], [.int v49.1])) (hh := stt v49.2) ?_ (fun kkv49 => ?_)
      · obtain rfl := inj hD
        exact ax_Wp.ret rfl ⟨rfl, rfl⟩
      clear hD
      have hD := hx
      clear hx
      refine ax_Wp.brD hD rfl (fun _ hD => ?_) (fun _ hD => ?_)
      · refine ax_Wp.go (f' := (252, [some (.ref 0), some (.int p0), some (.int x1), some (.int x2), some (.int (((x2 + (nI 1)) + x3) - ((x2 + (nI 1)) + x3) / (nI 10) * (nI 10))), some (.int x4)], [.int x1, .ref 0])) 2 rfl ?_
        refine cG.sp hD (fun x50 m53 hx hD => ?_) (fun j51 m52 hx hD => ?_)
        · refine ax_Wp.callE (f' := (255, [some (.ref 0), some (.int p0), some (.int x1), some (.int x2), some (.int (((x2 + (nI 1)) + x3) - ((x2 + (nI 1)) + x3) / (nI 10) * (nI 10))), some (.int x4)], [])) rfl rfl (w_73 (d := d + 1) hx) rfl ?_
          refine ax_Wp.brD hD rfl (fun _ hD => ?_) (fun _ hD => ?_)
          · refine ax_Wp.go (f' := (263, [some (.ref 0), some (.int p0), some (.int x1), some (.int x2), some (.int (((x2 + (nI 1)) + x3) - ((x2 + (nI 1)) + x3) / (nI 10) * (nI 10))), some (.int x4)], [.int (-1)])) 1 rfl ?_
            obtain rfl := inj hD
            exact ax_Wp.dead kkv49 ⟨.inl rfl, ⟨.inr ⟨rfl, trivial⟩, ⟨.inr ⟨rfl, trivial⟩, ⟨.inr ⟨rfl, trivial⟩, ⟨.inr ⟨rfl, trivial⟩, ⟨.inr ⟨rfl, trivial⟩, trivial⟩⟩⟩⟩⟩⟩
          · refine ax_Wp.go (f' := (263, [some (.ref 0), some (.int p0), some (.int x1), some (.int x2), some (.int (((x2 + (nI 1)) + x3) - ((x2 + (nI 1)) + x3) / (nI 10) * (nI 10))), some (.int x4)], [.int (nI 1)])) 2 rfl ?_
            obtain rfl := inj hD
            exact ax_Wp.dead kkv49 ⟨.inl rfl, ⟨.inr ⟨rfl, trivial⟩, ⟨.inr ⟨rfl, trivial⟩, ⟨.inr ⟨rfl, trivial⟩, ⟨.inr ⟨rfl, trivial⟩, ⟨.inr ⟨rfl, trivial⟩, trivial⟩⟩⟩⟩⟩⟩
        · cases hD
      · refine ax_Wp.go (f' := (263, [some (.ref 0), some (.int p0), some (.int x1), some (.int x2), some (.int (((x2 + (nI 1)) + x3) - ((x2 + (nI 1)) + x3) / (nI 10) * (nI 10))), some (.int x4)], [.int (nI 0)])) 2 rfl ?_
        obtain rfl := inj hD
        exact ax_Wp.dead kkv49 ⟨.inl rfl, ⟨.inr ⟨rfl, trivial⟩, ⟨.inr ⟨rfl, trivial⟩, ⟨.inr ⟨rfl, trivial⟩, ⟨.inr ⟨rfl, trivial⟩, ⟨.inr ⟨rfl, trivial⟩, trivial⟩⟩⟩⟩⟩⟩
    · cases hD
  refine swD hD (fun q7 hD => ?_) (fun q7 hD => ?_)
  · refine ax_Wp.eqx q7 ?_
    refine ax_Wp.go (f' := (264, [some (.ref 0), some (.int p0), some (.int x1), some (.int x2), some (.int (((x2 + (nI 1)) + x3) - ((x2 + (nI 1)) + x3) / (nI 10) * (nI 10))), some (.int x4)], [])) 1 rfl ?_
    refine ax_Wp.go (f' := (272, [some (.ref 0), some (.int p0), some (.int x1), some (.int x2), some (.int (((x2 + (nI 1)) + x3) - ((x2 + (nI 1)) + x3) / (nI 10) * (nI 10))), some (.int x4)], [.int (nI 51), .int (p0 >>> ((nI 4) &&& nI 31)), .int (nI 10), .ref 0])) 6 rfl ?_
    refine bnd hD (fun x54 hx hD => ?_)
    refine ax_Wp.callE (f' := (275, [some (.ref 0), some (.int p0), some (.int x1), some (.int x2), some (.int (((x2 + (nI 1)) + x3) - ((x2 + (nI 1)) + x3) / (nI 10) * (nI 10))), some (.int x4)], [.int (nI 10), .ref 0])) rfl rfl (w_301 (d := d + 7) hx) rfl ?_
    refine ax_Wp.go (f' := (276, [some (.ref 0), some (.int p0), some (.int x1), some (.int x2), some (.int (((x2 + (nI 1)) + x3) - ((x2 + (nI 1)) + x3) / (nI 10) * (nI 10))), some (.int x4)], [.int ((nI 10) + x54), .ref 0])) 1 rfl ?_
    refine cG.sp hD (fun x55 m58 hx hD => ?_) (fun j56 m57 hx hD => ?_)
    · refine ax_Wp.callE (f' := (279, [some (.ref 0), some (.int p0), some (.int x1), some (.int x2), some (.int (((x2 + (nI 1)) + x3) - ((x2 + (nI 1)) + x3) / (nI 10) * (nI 10))), some (.int x4)], [])) rfl rfl (w_76 (d := d + 2) hx) rfl ?_
      obtain rfl := inj hD
      exact ax_Wp.ret rfl ⟨rfl, rfl⟩
    · cases hD
  refine swD hD (fun q8 hD => ?_) (fun q8 hD => ?_)
  · refine ax_Wp.eqx q8 ?_
    refine ax_Wp.go (f' := (280, [some (.ref 0), some (.int p0), some (.int x1), some (.int x2), some (.int (((x2 + (nI 1)) + x3) - ((x2 + (nI 1)) + x3) / (nI 10) * (nI 10))), some (.int x4)], [])) 1 rfl ?_
    refine ax_Wp.go (f' := (281, [some (.ref 0), some (.int p0), some (.int x1), some (.int x2), some (.int (((x2 + (nI 1)) + x3) - ((x2 + (nI 1)) + x3) / (nI 10) * (nI 10))), some (.int x4)], [.ref 0])) 1 rfl ?_
    refine bnd hD (fun x59 hx hD => ?_)
    refine ax_Wp.callE (f' := (284, [some (.ref 0), some (.int p0), some (.int x1), some (.int x2), some (.int (((x2 + (nI 1)) + x3) - ((x2 + (nI 1)) + x3) / (nI 10) * (nI 10))), some (.int x4)], [])) rfl rfl (w_112 (d := d + 5) hx) rfl ?_
    refine bnd hD (fun v60 hx hD => ?_)
    refine ax_Wp.jn (F := (295, [some (.ref 0), none, none, none, none, none], [.int v60.1])) (hh := stt v60.2) ?_ (fun kkv60 => ?_)
    · obtain rfl := inj hD
      exact ax_Wp.ret rfl ⟨rfl, rfl⟩
    clear hD
    have hD := hx
    clear hx
    refine ax_Wp.brD hD rfl (fun _ hD => ?_) (fun _ hD => ?_)
    · refine ax_Wp.go (f' := (292, [some (.ref 0), some (.int p0), some (.int x1), some (.int x2), some (.int (((x2 + (nI 1)) + x3) - ((x2 + (nI 1)) + x3) / (nI 10) * (nI 10))), some (.int x4)], [.ref 0])) 1 rfl ?_
      refine cG.sp hD (fun x61 m64 hx hD => ?_) (fun j62 m63 hx hD => ?_)
      · refine ax_Wp.callE (f' := (295, [some (.ref 0), some (.int p0), some (.int x1), some (.int x2), some (.int (((x2 + (nI 1)) + x3) - ((x2 + (nI 1)) + x3) / (nI 10) * (nI 10))), some (.int x4)], [])) rfl rfl (w_79 (d := d + 2) hx) rfl ?_
        obtain rfl := inj hD
        exact ax_Wp.dead kkv60 ⟨.inl rfl, ⟨.inr ⟨rfl, trivial⟩, ⟨.inr ⟨rfl, trivial⟩, ⟨.inr ⟨rfl, trivial⟩, ⟨.inr ⟨rfl, trivial⟩, ⟨.inr ⟨rfl, trivial⟩, trivial⟩⟩⟩⟩⟩⟩
      · cases hD
    · refine ax_Wp.go (f' := (295, [some (.ref 0), some (.int p0), some (.int x1), some (.int x2), some (.int (((x2 + (nI 1)) + x3) - ((x2 + (nI 1)) + x3) / (nI 10) * (nI 10))), some (.int x4)], [.int (nI 0)])) 2 rfl ?_
      obtain rfl := inj hD
      exact ax_Wp.dead kkv60 ⟨.inl rfl, ⟨.inr ⟨rfl, trivial⟩, ⟨.inr ⟨rfl, trivial⟩, ⟨.inr ⟨rfl, trivial⟩, ⟨.inr ⟨rfl, trivial⟩, ⟨.inr ⟨rfl, trivial⟩, trivial⟩⟩⟩⟩⟩⟩
  refine swD hD (fun q9 hD => ?_) (fun q9 hD => ?_)
  · refine ax_Wp.eqx q9 ?_
    refine ax_Wp.go (f' := (280, [some (.ref 0), some (.int p0), some (.int x1), some (.int x2), some (.int (((x2 + (nI 1)) + x3) - ((x2 + (nI 1)) + x3) / (nI 10) * (nI 10))), some (.int x4)], [])) 1 rfl ?_
    refine ax_Wp.go (f' := (281, [some (.ref 0), some (.int p0), some (.int x1), some (.int x2), some (.int (((x2 + (nI 1)) + x3) - ((x2 + (nI 1)) + x3) / (nI 10) * (nI 10))), some (.int x4)], [.ref 0])) 1 rfl ?_
    refine bnd hD (fun x65 hx hD => ?_)
    refine ax_Wp.callE (f' := (284, [some (.ref 0), some (.int p0), some (.int x1), some (.int x2), some (.int (((x2 + (nI 1)) + x3) - ((x2 + (nI 1)) + x3) / (nI 10) * (nI 10))), some (.int x4)], [])) rfl rfl (w_112 (d := d + 5) hx) rfl ?_
    refine bnd hD (fun v66 hx hD => ?_)
    refine ax_Wp.jn (F := (295, [some (.ref 0), none, none, none, none, none], [.int v66.1])) (hh := stt v66.2) ?_ (fun kkv66 => ?_)
    · obtain rfl := inj hD
      exact ax_Wp.ret rfl ⟨rfl, rfl⟩
    clear hD
    have hD := hx
    clear hx
    refine ax_Wp.brD hD rfl (fun _ hD => ?_) (fun _ hD => ?_)
    · refine ax_Wp.go (f' := (292, [some (.ref 0), some (.int p0), some (.int x1), some (.int x2), some (.int (((x2 + (nI 1)) + x3) - ((x2 + (nI 1)) + x3) / (nI 10) * (nI 10))), some (.int x4)], [.ref 0])) 1 rfl ?_
      refine cG.sp hD (fun x67 m70 hx hD => ?_) (fun j68 m69 hx hD => ?_)
      · refine ax_Wp.callE (f' := (295, [some (.ref 0), some (.int p0), some (.int x1), some (.int x2), some (.int (((x2 + (nI 1)) + x3) - ((x2 + (nI 1)) + x3) / (nI 10) * (nI 10))), some (.int x4)], [])) rfl rfl (w_79 (d := d + 2) hx) rfl ?_
        obtain rfl := inj hD
        exact ax_Wp.dead kkv66 ⟨.inl rfl, ⟨.inr ⟨rfl, trivial⟩, ⟨.inr ⟨rfl, trivial⟩, ⟨.inr ⟨rfl, trivial⟩, ⟨.inr ⟨rfl, trivial⟩, ⟨.inr ⟨rfl, trivial⟩, trivial⟩⟩⟩⟩⟩⟩
      · cases hD
    · refine ax_Wp.go (f' := (295, [some (.ref 0), some (.int p0), some (.int x1), some (.int x2), some (.int (((x2 + (nI 1)) + x3) - ((x2 + (nI 1)) + x3) / (nI 10) * (nI 10))), some (.int x4)], [.int (nI 0)])) 2 rfl ?_
      obtain rfl := inj hD
      exact ax_Wp.dead kkv66 ⟨.inl rfl, ⟨.inr ⟨rfl, trivial⟩, ⟨.inr ⟨rfl, trivial⟩, ⟨.inr ⟨rfl, trivial⟩, ⟨.inr ⟨rfl, trivial⟩, ⟨.inr ⟨rfl, trivial⟩, trivial⟩⟩⟩⟩⟩⟩
  refine swD hD (fun q10 hD => ?_) (fun q10 hD => ?_)
  · refine ax_Wp.eqx q10 ?_
    refine ax_Wp.go (f' := (296, [some (.ref 0), some (.int p0), some (.int x1), some (.int x2), some (.int (((x2 + (nI 1)) + x3) - ((x2 + (nI 1)) + x3) / (nI 10) * (nI 10))), some (.int x4)], [])) 1 rfl ?_
    refine ax_Wp.go (f' := (298, [some (.ref 0), some (.int p0), some (.int x1), some (.int x2), some (.int (((x2 + (nI 1)) + x3) - ((x2 + (nI 1)) + x3) / (nI 10) * (nI 10))), some (.int x4)], [.int x1, .ref 0])) 2 rfl ?_
    refine cG.sp hD (fun x71 m74 hx hD => ?_) (fun j72 m73 hx hD => ?_)
    · refine ax_Wp.callE (f' := (301, [some (.ref 0), some (.int p0), some (.int x1), some (.int x2), some (.int (((x2 + (nI 1)) + x3) - ((x2 + (nI 1)) + x3) / (nI 10) * (nI 10))), some (.int x4)], [])) rfl rfl (w_78 (d := d + 1) hx) rfl ?_
      refine ax_Wp.go (f' := (303, [some (.ref 0), some (.int p0), some (.int x1), some (.int x2), some (.int (((x2 + (nI 1)) + x3) - ((x2 + (nI 1)) + x3) / (nI 10) * (nI 10))), some (.int x4)], [.int x1, .ref 0, .int x71])) 2 rfl ?_
      refine cT.sp hD (fun x75 hx hD => ?_) (fun j76 hx hD => ?_)
      · refine ax_Wp.callE (f' := (306, [some (.ref 0), some (.int p0), some (.int x1), some (.int x2), some (.int (((x2 + (nI 1)) + x3) - ((x2 + (nI 1)) + x3) / (nI 10) * (nI 10))), some (.int x4)], [.int x71])) rfl rfl (w_97 (d := d + 1) hx) rfl ?_
        refine bnd hD (fun v78 hx hD => ?_)
        refine ax_Wp.jn (F := (322, [some (.ref 0), none, none, none, none, none], [.int v78])) (hh := stt m74) ?_ (fun kkv78 => ?_)
        · obtain rfl := inj hD
          exact ax_Wp.ret rfl ⟨rfl, rfl⟩
        clear hD
        have hD := hx
        clear hx
        refine ax_Wp.brD hD rfl (fun _ hD => ?_) (fun _ hD => ?_)
        · refine ax_Wp.go (f' := (311, [some (.ref 0), some (.int p0), some (.int x1), some (.int x2), some (.int (((x2 + (nI 1)) + x3) - ((x2 + (nI 1)) + x3) / (nI 10) * (nI 10))), some (.int x4)], [.int x1, .ref 0])) 2 rfl ?_
          refine cT.sp hD (fun x79 hx hD => ?_) (fun j80 hx hD => ?_)
          · refine ax_Wp.callE (f' := (314, [some (.ref 0), some (.int p0), some (.int x1), some (.int x2), some (.int (((x2 + (nI 1)) + x3) - ((x2 + (nI 1)) + x3) / (nI 10) * (nI 10))), some (.int x4)], [])) rfl rfl (w_97 (d := d + 1) hx) rfl ?_
            refine ax_Wp.brD hD rfl (fun _ hD => ?_) (fun _ hD => ?_)
            · refine ax_Wp.go (f' := (322, [some (.ref 0), some (.int p0), some (.int x1), some (.int x2), some (.int (((x2 + (nI 1)) + x3) - ((x2 + (nI 1)) + x3) / (nI 10) * (nI 10))), some (.int x4)], [.int (nI 0)])) 1 rfl ?_
              obtain rfl := inj hD
              exact ax_Wp.dead kkv78 ⟨.inl rfl, ⟨.inr ⟨rfl, trivial⟩, ⟨.inr ⟨rfl, trivial⟩, ⟨.inr ⟨rfl, trivial⟩, ⟨.inr ⟨rfl, trivial⟩, ⟨.inr ⟨rfl, trivial⟩, trivial⟩⟩⟩⟩⟩⟩
            · refine ax_Wp.go (f' := (322, [some (.ref 0), some (.int p0), some (.int x1), some (.int x2), some (.int (((x2 + (nI 1)) + x3) - ((x2 + (nI 1)) + x3) / (nI 10) * (nI 10))), some (.int x4)], [.int (-1)])) 2 rfl ?_
              obtain rfl := inj hD
              exact ax_Wp.dead kkv78 ⟨.inl rfl, ⟨.inr ⟨rfl, trivial⟩, ⟨.inr ⟨rfl, trivial⟩, ⟨.inr ⟨rfl, trivial⟩, ⟨.inr ⟨rfl, trivial⟩, ⟨.inr ⟨rfl, trivial⟩, trivial⟩⟩⟩⟩⟩⟩
          · cases hD
        · refine ax_Wp.go (f' := (322, [some (.ref 0), some (.int p0), some (.int x1), some (.int x2), some (.int (((x2 + (nI 1)) + x3) - ((x2 + (nI 1)) + x3) / (nI 10) * (nI 10))), some (.int x4)], [.int (nI 0)])) 1 rfl ?_
          obtain rfl := inj hD
          exact ax_Wp.dead kkv78 ⟨.inl rfl, ⟨.inr ⟨rfl, trivial⟩, ⟨.inr ⟨rfl, trivial⟩, ⟨.inr ⟨rfl, trivial⟩, ⟨.inr ⟨rfl, trivial⟩, ⟨.inr ⟨rfl, trivial⟩, trivial⟩⟩⟩⟩⟩⟩
      · cases hD
    · cases hD
  refine ax_Wp.st (f' := (323, [some (.ref 0), some (.int p0), some (.int x1), some (.int x2), some (.int (((x2 + (nI 1)) + x3) - ((x2 + (nI 1)) + x3) / (nI 10) * (nI 10))), some (.int x4)], [])) (ax_tsw rfl rfl (ax_ts11 q0 q1 q2 q3 q4 q5 q6 q7 q8 q9 q10)) ?_
  refine ax_Wp.go (f' := (325, [some (.ref 0), some (.int p0), some (.int x1), some (.int x2), some (.int (((x2 + (nI 1)) + x3) - ((x2 + (nI 1)) + x3) / (nI 10) * (nI 10))), some (.int x4)], [.int x4])) 1 rfl ?_
  refine bnd hD (fun v82 hx hD => ?_)
  refine ax_Wp.jn (F := (337, [some (.ref 0), none, none, none, none, none], [.int v82.1])) (hh := stt v82.2) ?_ (fun kkv82 => ?_)
  · obtain rfl := inj hD
    exact ax_Wp.ret rfl ⟨rfl, rfl⟩
  clear hD
  have hD := hx
  clear hx
  refine ax_Wp.brD hD rfl (fun _ hD => ?_) (fun _ hD => ?_)
  · refine ax_Wp.go (f' := (337, [some (.ref 0), some (.int p0), some (.int x1), some (.int x2), some (.int (((x2 + (nI 1)) + x3) - ((x2 + (nI 1)) + x3) / (nI 10) * (nI 10))), some (.int x4)], [.int (nI 0)])) 2 rfl ?_
    obtain rfl := inj hD
    exact ax_Wp.dead kkv82 ⟨.inl rfl, ⟨.inr ⟨rfl, trivial⟩, ⟨.inr ⟨rfl, trivial⟩, ⟨.inr ⟨rfl, trivial⟩, ⟨.inr ⟨rfl, trivial⟩, ⟨.inr ⟨rfl, trivial⟩, trivial⟩⟩⟩⟩⟩⟩
  · refine ax_Wp.go (f' := (334, [some (.ref 0), some (.int p0), some (.int x1), some (.int x2), some (.int (((x2 + (nI 1)) + x3) - ((x2 + (nI 1)) + x3) / (nI 10) * (nI 10))), some (.int x4)], [.int p0, .ref 0])) 2 rfl ?_
    refine bnd hD (fun r83 hx hD => ?_)
    refine ax_Wp.callE (f' := (337, [some (.ref 0), some (.int p0), some (.int x1), some (.int x2), some (.int (((x2 + (nI 1)) + x3) - ((x2 + (nI 1)) + x3) / (nI 10) * (nI 10))), some (.int x4)], [])) rfl rfl (w_303 (d := d + 0) hx) rfl ?_
    obtain rfl := inj hD
    exact ax_Wp.dead kkv82 ⟨.inl rfl, ⟨.inr ⟨rfl, trivial⟩, ⟨.inr ⟨rfl, trivial⟩, ⟨.inr ⟨rfl, trivial⟩, ⟨.inr ⟨rfl, trivial⟩, ⟨.inr ⟨rfl, trivial⟩, trivial⟩⟩⟩⟩⟩⟩
def D307 (m : dM) : Option (Int32) := (D101 m).bind fun (x1 : Int32) => Option.bind (lp (β := Int32 × Int32) 3000 (fun (s2 : Int32 × Int32 × Int32) => if x1 ≤ s2.2.2 then some (.inr (s2.1, s2.2.1)) else cT (D102 m s2.2.2) m (fun (x4 : Int32) => cT (D103 m s2.2.2) m (fun (x7 : Int32) => Option.bind ((if x7 = (nI 0) then some (nI 0) else some (nI 1)) : Option (Int32)) fun (v10 : Int32) => Option.bind ((if x4 = (nI 0) then cT (D104 m s2.2.2) m (fun (x12 : Int32) => some x12) (fun (j13 : Nat) (m14 : dM) => none) else some (-1)) : Option (Int32)) fun (v11 : Int32) => Option.bind ((if s2.2.1 = (nI 0) then some (nI 0) else if x4 = (nI 0) then if x4 = (nI 0) then if v11 < (nI 0) then some (nI 0) else if (nI 4) ≤ v11 then some (nI 0) else if x4 = (nI 0) then if x7 = (nI 0) then cT (D105 m s2.2.2) m (fun (x16 : Int32) => cT (D94 m v11) m (fun (x19 : Int32) => if x16 = x19 then cT (D96 m v11) m (fun (x22 : Int32) => if x22 ≤ (nI 0) then some (nI 0) else some (nI 1)) (fun (j23 : Nat) (m24 : dM) => none) else some (nI 0)) (fun (j20 : Nat) (m21 : dM) => none)) (fun (j17 : Nat) (m18 : dM) => none) else some (nI 1) else some (nI 1) else if x4 = (nI 0) then if x7 = (nI 0) then cT (D105 m s2.2.2) m (fun (x25 : Int32) => cT (D94 m v11) m (fun (x28 : Int32) => if x25 = x28 then cT (D96 m v11) m (fun (x31 : Int32) => if x31 ≤ (nI 0) then some (nI 0) else some (nI 1)) (fun (j32 : Nat) (m33 : dM) => none) else some (nI 0)) (fun (j29 : Nat) (m30 : dM) => none)) (fun (j26 : Nat) (m27 : dM) => none) else some (nI 1) else some (nI 1) else if x7 = (nI 0) then if x4 = (nI 0) then if v11 < (nI 0) then some (nI 0) else if (nI 4) ≤ v11 then some (nI 0) else if x4 = (nI 0) then if x7 = (nI 0) then cT (D105 m s2.2.2) m (fun (x34 : Int32) => cT (D94 m v11) m (fun (x37 : Int32) => if x34 = x37 then cT (D96 m v11) m (fun (x40 : Int32) => if x40 ≤ (nI 0) then some (nI 0) else some (nI 1)) (fun (j41 : Nat) (m42 : dM) => none) else some (nI 0)) (fun (j38 : Nat) (m39 : dM) => none)) (fun (j35 : Nat) (m36 : dM) => none) else some (nI 1) else some (nI 1) else if x4 = (nI 0) then if x7 = (nI 0) then cT (D105 m s2.2.2) m (fun (x43 : Int32) => cT (D94 m v11) m (fun (x46 : Int32) => if x43 = x46 then cT (D96 m v11) m (fun (x49 : Int32) => if x49 ≤ (nI 0) then some (nI 0) else some (nI 1)) (fun (j50 : Nat) (m51 : dM) => none) else some (nI 0)) (fun (j47 : Nat) (m48 : dM) => none)) (fun (j44 : Nat) (m45 : dM) => none) else some (nI 1) else some (nI 1) else some (nI 0)) : Option (Int32)) fun (v15 : Int32) => some (.inl (s2.1 + v10, v15, s2.2.2 + (nI 1)))) (fun (j8 : Nat) (m9 : dM) => none)) (fun (j5 : Nat) (m6 : dM) => none)) (nI 0, nI 1, nI 0)) fun (v3 : Int32 × Int32) => Option.bind ((if v3.2 = (nI 0) then some (nI 0) else (D121 m).bind fun (x53 : UInt64) => (gD (FP.dmul x53 (FP.i2d x1))).bind fun (x54 : UInt64) => if (Op.cmpValue (FP.dcmp x54 (FP.i2d (v3.1 - (nI 1)))) .l) ≤ (nI 0) then some (nI 0) else if x1 = (nI 0) then some (nI 1) else (D121 m).bind fun (x55 : UInt64) => (gD (FP.dmul x55 (FP.i2d x1))).bind fun (x56 : UInt64) => if (nI 0) ≤ (Op.cmpValue (FP.dcmp x56 (FP.i2d (v3.1 + (nI 1)))) .g) then some (nI 0) else some (nI 1)) : Option (Int32)) fun (v52 : Int32) => Option.bind ((if x1 ≤ (nI 0) then (D110 m).bind fun (x58 : Int32) => if x58 ≤ (nI 2) then some (-1) else some (nI 2) else if v3.1 = x1 then some (nI 1) else (D110 m).bind fun (x59 : Int32) => if x59 ≤ (nI 2) then some (-1) else some (nI 2)) : Option (Int32)) fun (v57 : Int32) => Option.bind ((if v52 = (nI 0) then some (nI 0) else if (nI 0) ≤ v57 then (D112 m).bind fun (x61 : Int32) => if x61 = v57 then (D110 m).bind fun (x62 : Int32) => if x62 ≤ (nI 0) then some (nI 0) else (D111 m).bind fun (x63 : Int32) => if x63 ≤ (nI 0) then some (nI 0) else some (nI 1) else some (nI 0) else (D112 m).bind fun (x64 : Int32) => if x64 = (nI 0) then (D110 m).bind fun (x65 : Int32) => if x65 ≤ (nI 0) then some (nI 0) else (D111 m).bind fun (x66 : Int32) => if x66 ≤ (nI 0) then some (nI 0) else some (nI 1) else (D112 m).bind fun (x67 : Int32) => if x67 = (nI 3) then (D110 m).bind fun (x68 : Int32) => if x68 ≤ (nI 0) then some (nI 0) else (D111 m).bind fun (x69 : Int32) => if x69 ≤ (nI 0) then some (nI 0) else some (nI 1) else some (nI 0)) : Option (Int32)) fun (v60 : Int32) => Option.bind ((if v60 = (nI 0) then some (nI 0) else cT (D107 m (nI 0)) m (fun (x71 : Int32) => cT (D106 m (nI 0)) m (fun (x74 : Int32) => if x71 = x74 then cT (D107 m (nI 1)) m (fun (x77 : Int32) => cT (D106 m (nI 1)) m (fun (x80 : Int32) => if x77 = x80 then some (nI 1) else some (nI 0)) (fun (j81 : Nat) (m82 : dM) => none)) (fun (j78 : Nat) (m79 : dM) => none) else some (nI 0)) (fun (j75 : Nat) (m76 : dM) => none)) (fun (j72 : Nat) (m73 : dM) => none)) : Option (Int32)) fun (v70 : Int32) => (gB v70).bind fun (b83 : Int32) => some b83
set_option maxRecDepth 20000 in
theorem w_307 {X : Nat × (Nat → Int32)} {d : Nat} {m : dM} {r : Int32} (hD : D307 m = some r) : ax_Ev X (d + 8) 116 [.ref 0] (stt m) (.inl (some (.int r))) (stt m) := by
  unfold D307 at hD
  show ax_Wp X (d + 7 + 1) 116 (0, [some (.ref 0), none, none, none, none, none, none, none], []) (stt m) _
  refine ax_Wp.go (f' := (3, [some (.ref 0), some (.int (nI 0)), none, none, none, none, none, none], [.ref 0])) 3 rfl ?_
  refine bnd hD (fun x1 hx hD => ?_)
  refine ax_Wp.callE (f' := (6, [some (.ref 0), some (.int (nI 0)), none, none, none, none, none, none], [])) rfl rfl (w_101 (d := d + 6) hx) rfl ?_
  refine ax_Wp.go (f' := (12, [some (.ref 0), some (.int (nI 0)), some (.int x1), some (.int (nI 1)), some (.int (nI 0)), none, none, none], [])) 5 rfl ?_
  refine bnd hD (fun v3 hx hD => ?_)
  refine ax_Wp.jn (F := (140, [some (.ref 0), some (.int v3.1), some (.int x1), some (.int v3.2), none, none, none, none], [])) (hh := stt m) ?_ (fun kkv3 => ?_)
  · refine ax_Wp.go (f' := (141, [some (.ref 0), some (.int v3.1), some (.int x1), some (.int v3.2), none, none, none, none], [.int v3.2])) 1 rfl ?_
    refine bnd hD (fun v52 hx hD => ?_)
    refine ax_Wp.jn (F := (183, [some (.ref 0), some (.int v3.1), some (.int x1), none, none, none, none, none], [.int v52])) (hh := stt m) ?_ (fun kkv52 => ?_)
    · refine ax_Wp.go (f' := (185, [some (.ref 0), some (.int v3.1), some (.int x1), some (.int v52), none, none, none, none], [.int x1])) 2 rfl ?_
      refine bnd hD (fun v57 hx hD => ?_)
      refine ax_Wp.jn (F := (210, [some (.ref 0), none, none, some (.int v52), none, none, none, none], [.int v57])) (hh := stt m) ?_ (fun kkv57 => ?_)
      · refine ax_Wp.go (f' := (213, [some (.ref 0), none, none, some (.int v52), some (.int v57), none, none, none], [.int v52])) 2 rfl ?_
        refine bnd hD (fun v60 hx hD => ?_)
        refine ax_Wp.jn (F := (267, [some (.ref 0), none, none, none, none, none, none, none], [.int v60])) (hh := stt m) ?_ (fun kkv60 => ?_)
        · refine ax_Wp.go (f' := (269, [some (.ref 0), none, none, some (.int v60), none, none, none, none], [.int v60])) 2 rfl ?_
          refine bnd hD (fun v70 hx hD => ?_)
          refine ax_Wp.jn (F := (303, [some (.ref 0), none, none, none, none, none, none, none], [.int v70])) (hh := stt m) ?_ (fun kkv70 => ?_)
          · refine ax_Wp.retB hD rfl (fun b83 hD => ?_)
            obtain rfl := inj hD
            exact ⟨rfl, rfl⟩
          clear hD
          have hD := hx
          clear hx
          refine ax_Wp.brD hD rfl (fun _ hD => ?_) (fun _ hD => ?_)
          · refine ax_Wp.go (f' := (303, [some (.ref 0), none, none, some (.int v60), none, none, none, none], [.int (nI 0)])) 1 rfl ?_
            obtain rfl := inj hD
            exact ax_Wp.dead kkv70 ⟨.inl rfl, ⟨.inl rfl, ⟨.inl rfl, ⟨.inr ⟨rfl, trivial⟩, ⟨.inl rfl, ⟨.inl rfl, ⟨.inl rfl, ⟨.inl rfl, trivial⟩⟩⟩⟩⟩⟩⟩⟩
          · refine ax_Wp.go (f' := (274, [some (.ref 0), none, none, some (.int v60), none, none, none, none], [.int (nI 0), .ref 0])) 2 rfl ?_
            refine cT.sp hD (fun x71 hx hD => ?_) (fun j72 hx hD => ?_)
            · refine ax_Wp.callE (f' := (277, [some (.ref 0), none, none, some (.int v60), none, none, none, none], [])) rfl rfl (w_107 (d := d + 0) hx) rfl ?_
              refine ax_Wp.go (f' := (279, [some (.ref 0), none, none, some (.int v60), none, none, none, none], [.int (nI 0), .ref 0, .int x71])) 2 rfl ?_
              refine cT.sp hD (fun x74 hx hD => ?_) (fun j75 hx hD => ?_)
              · refine ax_Wp.callE (f' := (282, [some (.ref 0), none, none, some (.int v60), none, none, none, none], [.int x71])) rfl rfl (w_106 (d := d + 0) hx) rfl ?_
                refine ax_Wp.brD hD rfl (fun _ hD => ?_) (fun _ hD => ?_)
                · refine ax_Wp.go (f' := (287, [some (.ref 0), none, none, some (.int v60), none, none, none, none], [.int (nI 1), .ref 0])) 2 rfl ?_
                  refine cT.sp hD (fun x77 hx hD => ?_) (fun j78 hx hD => ?_)
                  · refine ax_Wp.callE (f' := (290, [some (.ref 0), none, none, some (.int v60), none, none, none, none], [])) rfl rfl (w_107 (d := d + 0) hx) rfl ?_
                    refine ax_Wp.go (f' := (292, [some (.ref 0), none, none, some (.int v60), none, none, none, none], [.int (nI 1), .ref 0, .int x77])) 2 rfl ?_
                    refine cT.sp hD (fun x80 hx hD => ?_) (fun j81 hx hD => ?_)
                    · refine ax_Wp.callE (f' := (295, [some (.ref 0), none, none, some (.int v60), none, none, none, none], [.int x77])) rfl rfl (w_106 (d := d + 0) hx) rfl ?_
                      refine ax_Wp.brD hD rfl (fun _ hD => ?_) (fun _ hD => ?_)
                      · refine ax_Wp.go (f' := (303, [some (.ref 0), none, none, some (.int v60), none, none, none, none], [.int (nI 1)])) 2 rfl ?_
                        obtain rfl := inj hD
                        exact ax_Wp.dead kkv70 ⟨.inl rfl, ⟨.inl rfl, ⟨.inl rfl, ⟨.inr ⟨rfl, trivial⟩, ⟨.inl rfl, ⟨.inl rfl, ⟨.inl rfl, ⟨.inl rfl, trivial⟩⟩⟩⟩⟩⟩⟩⟩
                      · refine ax_Wp.go (f' := (303, [some (.ref 0), none, none, some (.int v60), none, none, none, none], [.int (nI 0)])) 1 rfl ?_
                        obtain rfl := inj hD
                        exact ax_Wp.dead kkv70 ⟨.inl rfl, ⟨.inl rfl, ⟨.inl rfl, ⟨.inr ⟨rfl, trivial⟩, ⟨.inl rfl, ⟨.inl rfl, ⟨.inl rfl, ⟨.inl rfl, trivial⟩⟩⟩⟩⟩⟩⟩⟩
                    · cases hD
                  · cases hD
                · refine ax_Wp.go (f' := (303, [some (.ref 0), none, none, some (.int v60), none, none, none, none], [.int (nI 0)])) 1 rfl ?_
                  obtain rfl := inj hD
                  exact ax_Wp.dead kkv70 ⟨.inl rfl, ⟨.inl rfl, ⟨.inl rfl, ⟨.inr ⟨rfl, trivial⟩, ⟨.inl rfl, ⟨.inl rfl, ⟨.inl rfl, ⟨.inl rfl, trivial⟩⟩⟩⟩⟩⟩⟩⟩
              · cases hD
            · cases hD
        clear hD
        have hD := hx
        clear hx
        refine ax_Wp.brD hD rfl (fun _ hD => ?_) (fun _ hD => ?_)
        · refine ax_Wp.go (f' := (267, [some (.ref 0), none, none, some (.int v52), some (.int v57), none, none, none], [.int (nI 0)])) 1 rfl ?_
          obtain rfl := inj hD
          exact ax_Wp.dead kkv60 ⟨.inl rfl, ⟨.inl rfl, ⟨.inl rfl, ⟨.inr ⟨rfl, trivial⟩, ⟨.inr ⟨rfl, trivial⟩, ⟨.inl rfl, ⟨.inl rfl, ⟨.inl rfl, trivial⟩⟩⟩⟩⟩⟩⟩⟩
        · refine ax_Wp.go (f' := (218, [some (.ref 0), none, none, some (.int v52), some (.int v57), none, none, none], [.int v57])) 1 rfl ?_
          refine ax_Wp.brD hD rfl (fun _ hD => ?_) (fun _ hD => ?_)
          · refine ax_Wp.go (f' := (240, [some (.ref 0), none, none, some (.int v52), some (.int v57), none, none, none], [.ref 0])) 1 rfl ?_
            refine bnd hD (fun x61 hx hD => ?_)
            refine ax_Wp.callE (f' := (243, [some (.ref 0), none, none, some (.int v52), some (.int v57), none, none, none], [])) rfl rfl (w_112 (d := d + 4) hx) rfl ?_
            refine ax_Wp.go (f' := (245, [some (.ref 0), none, none, some (.int v52), some (.int v57), none, none, none], [.int v57, .int x61])) 1 rfl ?_
            refine ax_Wp.brD hD rfl (fun _ hD => ?_) (fun _ hD => ?_)
            · refine ax_Wp.go (f' := (249, [some (.ref 0), none, none, some (.int v52), some (.int v57), none, none, none], [.ref 0])) 1 rfl ?_
              refine bnd hD (fun x62 hx hD => ?_)
              refine ax_Wp.callE (f' := (252, [some (.ref 0), none, none, some (.int v52), some (.int v57), none, none, none], [])) rfl rfl (w_110 (d := d + 5) hx) rfl ?_
              refine ax_Wp.brD hD rfl (fun _ hD => ?_) (fun _ hD => ?_)
              · refine ax_Wp.go (f' := (267, [some (.ref 0), none, none, some (.int v52), some (.int v57), none, none, none], [.int (nI 0)])) 1 rfl ?_
                obtain rfl := inj hD
                exact ax_Wp.dead kkv60 ⟨.inl rfl, ⟨.inl rfl, ⟨.inl rfl, ⟨.inr ⟨rfl, trivial⟩, ⟨.inr ⟨rfl, trivial⟩, ⟨.inl rfl, ⟨.inl rfl, ⟨.inl rfl, trivial⟩⟩⟩⟩⟩⟩⟩⟩
              · refine ax_Wp.go (f' := (256, [some (.ref 0), none, none, some (.int v52), some (.int v57), none, none, none], [.ref 0])) 1 rfl ?_
                refine bnd hD (fun x63 hx hD => ?_)
                refine ax_Wp.callE (f' := (259, [some (.ref 0), none, none, some (.int v52), some (.int v57), none, none, none], [])) rfl rfl (w_111 (d := d + 4) hx) rfl ?_
                refine ax_Wp.brD hD rfl (fun _ hD => ?_) (fun _ hD => ?_)
                · refine ax_Wp.go (f' := (267, [some (.ref 0), none, none, some (.int v52), some (.int v57), none, none, none], [.int (nI 0)])) 1 rfl ?_
                  obtain rfl := inj hD
                  exact ax_Wp.dead kkv60 ⟨.inl rfl, ⟨.inl rfl, ⟨.inl rfl, ⟨.inr ⟨rfl, trivial⟩, ⟨.inr ⟨rfl, trivial⟩, ⟨.inl rfl, ⟨.inl rfl, ⟨.inl rfl, trivial⟩⟩⟩⟩⟩⟩⟩⟩
                · refine ax_Wp.go (f' := (267, [some (.ref 0), none, none, some (.int v52), some (.int v57), none, none, none], [.int (nI 1)])) 2 rfl ?_
                  obtain rfl := inj hD
                  exact ax_Wp.dead kkv60 ⟨.inl rfl, ⟨.inl rfl, ⟨.inl rfl, ⟨.inr ⟨rfl, trivial⟩, ⟨.inr ⟨rfl, trivial⟩, ⟨.inl rfl, ⟨.inl rfl, ⟨.inl rfl, trivial⟩⟩⟩⟩⟩⟩⟩⟩
            · refine ax_Wp.go (f' := (267, [some (.ref 0), none, none, some (.int v52), some (.int v57), none, none, none], [.int (nI 0)])) 1 rfl ?_
              obtain rfl := inj hD
              exact ax_Wp.dead kkv60 ⟨.inl rfl, ⟨.inl rfl, ⟨.inl rfl, ⟨.inr ⟨rfl, trivial⟩, ⟨.inr ⟨rfl, trivial⟩, ⟨.inl rfl, ⟨.inl rfl, ⟨.inl rfl, trivial⟩⟩⟩⟩⟩⟩⟩⟩
          · refine ax_Wp.go (f' := (222, [some (.ref 0), none, none, some (.int v52), some (.int v57), none, none, none], [.ref 0])) 1 rfl ?_
            refine bnd hD (fun x64 hx hD => ?_)
            refine ax_Wp.callE (f' := (225, [some (.ref 0), none, none, some (.int v52), some (.int v57), none, none, none], [])) rfl rfl (w_112 (d := d + 4) hx) rfl ?_
            refine ax_Wp.brD hD rfl (fun _ hD => ?_) (fun _ hD => ?_)
            · refine ax_Wp.go (f' := (249, [some (.ref 0), none, none, some (.int v52), some (.int v57), none, none, none], [.ref 0])) 1 rfl ?_
              refine bnd hD (fun x65 hx hD => ?_)
              refine ax_Wp.callE (f' := (252, [some (.ref 0), none, none, some (.int v52), some (.int v57), none, none, none], [])) rfl rfl (w_110 (d := d + 5) hx) rfl ?_
              refine ax_Wp.brD hD rfl (fun _ hD => ?_) (fun _ hD => ?_)
              · refine ax_Wp.go (f' := (267, [some (.ref 0), none, none, some (.int v52), some (.int v57), none, none, none], [.int (nI 0)])) 1 rfl ?_
                obtain rfl := inj hD
                exact ax_Wp.dead kkv60 ⟨.inl rfl, ⟨.inl rfl, ⟨.inl rfl, ⟨.inr ⟨rfl, trivial⟩, ⟨.inr ⟨rfl, trivial⟩, ⟨.inl rfl, ⟨.inl rfl, ⟨.inl rfl, trivial⟩⟩⟩⟩⟩⟩⟩⟩
              · refine ax_Wp.go (f' := (256, [some (.ref 0), none, none, some (.int v52), some (.int v57), none, none, none], [.ref 0])) 1 rfl ?_
                refine bnd hD (fun x66 hx hD => ?_)
                refine ax_Wp.callE (f' := (259, [some (.ref 0), none, none, some (.int v52), some (.int v57), none, none, none], [])) rfl rfl (w_111 (d := d + 4) hx) rfl ?_
                refine ax_Wp.brD hD rfl (fun _ hD => ?_) (fun _ hD => ?_)
                · refine ax_Wp.go (f' := (267, [some (.ref 0), none, none, some (.int v52), some (.int v57), none, none, none], [.int (nI 0)])) 1 rfl ?_
                  obtain rfl := inj hD
                  exact ax_Wp.dead kkv60 ⟨.inl rfl, ⟨.inl rfl, ⟨.inl rfl, ⟨.inr ⟨rfl, trivial⟩, ⟨.inr ⟨rfl, trivial⟩, ⟨.inl rfl, ⟨.inl rfl, ⟨.inl rfl, trivial⟩⟩⟩⟩⟩⟩⟩⟩
                · refine ax_Wp.go (f' := (267, [some (.ref 0), none, none, some (.int v52), some (.int v57), none, none, none], [.int (nI 1)])) 2 rfl ?_
                  obtain rfl := inj hD
                  exact ax_Wp.dead kkv60 ⟨.inl rfl, ⟨.inl rfl, ⟨.inl rfl, ⟨.inr ⟨rfl, trivial⟩, ⟨.inr ⟨rfl, trivial⟩, ⟨.inl rfl, ⟨.inl rfl, ⟨.inl rfl, trivial⟩⟩⟩⟩⟩⟩⟩⟩
            · refine ax_Wp.go (f' := (229, [some (.ref 0), none, none, some (.int v52), some (.int v57), none, none, none], [.ref 0])) 1 rfl ?_
              refine bnd hD (fun x67 hx hD => ?_)
              refine ax_Wp.callE (f' := (232, [some (.ref 0), none, none, some (.int v52), some (.int v57), none, none, none], [])) rfl rfl (w_112 (d := d + 4) hx) rfl ?_
              refine ax_Wp.go (f' := (233, [some (.ref 0), none, none, some (.int v52), some (.int v57), none, none, none], [.int (nI 3), .int x67])) 1 rfl ?_
              refine ax_Wp.brD hD rfl (fun _ hD => ?_) (fun _ hD => ?_)
              · refine ax_Wp.go (f' := (249, [some (.ref 0), none, none, some (.int v52), some (.int v57), none, none, none], [.ref 0])) 2 rfl ?_
                refine bnd hD (fun x68 hx hD => ?_)
                refine ax_Wp.callE (f' := (252, [some (.ref 0), none, none, some (.int v52), some (.int v57), none, none, none], [])) rfl rfl (w_110 (d := d + 5) hx) rfl ?_
                refine ax_Wp.brD hD rfl (fun _ hD => ?_) (fun _ hD => ?_)
                · refine ax_Wp.go (f' := (267, [some (.ref 0), none, none, some (.int v52), some (.int v57), none, none, none], [.int (nI 0)])) 1 rfl ?_
                  obtain rfl := inj hD
                  exact ax_Wp.dead kkv60 ⟨.inl rfl, ⟨.inl rfl, ⟨.inl rfl, ⟨.inr ⟨rfl, trivial⟩, ⟨.inr ⟨rfl, trivial⟩, ⟨.inl rfl, ⟨.inl rfl, ⟨.inl rfl, trivial⟩⟩⟩⟩⟩⟩⟩⟩
                · refine ax_Wp.go (f' := (256, [some (.ref 0), none, none, some (.int v52), some (.int v57), none, none, none], [.ref 0])) 1 rfl ?_
                  refine bnd hD (fun x69 hx hD => ?_)
                  refine ax_Wp.callE (f' := (259, [some (.ref 0), none, none, some (.int v52), some (.int v57), none, none, none], [])) rfl rfl (w_111 (d := d + 4) hx) rfl ?_
                  refine ax_Wp.brD hD rfl (fun _ hD => ?_) (fun _ hD => ?_)
                  · refine ax_Wp.go (f' := (267, [some (.ref 0), none, none, some (.int v52), some (.int v57), none, none, none], [.int (nI 0)])) 1 rfl ?_
                    obtain rfl := inj hD
                    exact ax_Wp.dead kkv60 ⟨.inl rfl, ⟨.inl rfl, ⟨.inl rfl, ⟨.inr ⟨rfl, trivial⟩, ⟨.inr ⟨rfl, trivial⟩, ⟨.inl rfl, ⟨.inl rfl, ⟨.inl rfl, trivial⟩⟩⟩⟩⟩⟩⟩⟩
                  · refine ax_Wp.go (f' := (267, [some (.ref 0), none, none, some (.int v52), some (.int v57), none, none, none], [.int (nI 1)])) 2 rfl ?_
                    obtain rfl := inj hD
                    exact ax_Wp.dead kkv60 ⟨.inl rfl, ⟨.inl rfl, ⟨.inl rfl, ⟨.inr ⟨rfl, trivial⟩, ⟨.inr ⟨rfl, trivial⟩, ⟨.inl rfl, ⟨.inl rfl, ⟨.inl rfl, trivial⟩⟩⟩⟩⟩⟩⟩⟩
              · refine ax_Wp.go (f' := (267, [some (.ref 0), none, none, some (.int v52), some (.int v57), none, none, none], [.int (nI 0)])) 1 rfl ?_
                obtain rfl := inj hD
                exact ax_Wp.dead kkv60 ⟨.inl rfl, ⟨.inl rfl, ⟨.inl rfl, ⟨.inr ⟨rfl, trivial⟩, ⟨.inr ⟨rfl, trivial⟩, ⟨.inl rfl, ⟨.inl rfl, ⟨.inl rfl, trivial⟩⟩⟩⟩⟩⟩⟩⟩
      clear hD
      have hD := hx
      clear hx
      refine ax_Wp.brD hD rfl (fun _ hD => ?_) (fun _ hD => ?_)
      · refine ax_Wp.go (f' := (198, [some (.ref 0), some (.int v3.1), some (.int x1), some (.int v52), none, none, none, none], [.ref 0])) 1 rfl ?_
        refine bnd hD (fun x58 hx hD => ?_)
        refine ax_Wp.callE (f' := (201, [some (.ref 0), some (.int v3.1), some (.int x1), some (.int v52), none, none, none, none], [])) rfl rfl (w_110 (d := d + 5) hx) rfl ?_
        refine ax_Wp.go (f' := (202, [some (.ref 0), some (.int v3.1), some (.int x1), some (.int v52), none, none, none, none], [.int (nI 2), .int x58])) 1 rfl ?_
        refine ax_Wp.brD hD rfl (fun _ hD => ?_) (fun _ hD => ?_)
        · refine ax_Wp.go (f' := (210, [some (.ref 0), some (.int v3.1), some (.int x1), some (.int v52), none, none, none, none], [.int (-1)])) 1 rfl ?_
          obtain rfl := inj hD
          exact ax_Wp.dead kkv57 ⟨.inl rfl, ⟨.inr ⟨rfl, trivial⟩, ⟨.inr ⟨rfl, trivial⟩, ⟨.inl rfl, ⟨.inl rfl, ⟨.inl rfl, ⟨.inl rfl, ⟨.inl rfl, trivial⟩⟩⟩⟩⟩⟩⟩⟩
        · refine ax_Wp.go (f' := (210, [some (.ref 0), some (.int v3.1), some (.int x1), some (.int v52), none, none, none, none], [.int (nI 2)])) 2 rfl ?_
          obtain rfl := inj hD
          exact ax_Wp.dead kkv57 ⟨.inl rfl, ⟨.inr ⟨rfl, trivial⟩, ⟨.inr ⟨rfl, trivial⟩, ⟨.inl rfl, ⟨.inl rfl, ⟨.inl rfl, ⟨.inl rfl, ⟨.inl rfl, trivial⟩⟩⟩⟩⟩⟩⟩⟩
      · refine ax_Wp.go (f' := (190, [some (.ref 0), some (.int v3.1), some (.int x1), some (.int v52), none, none, none, none], [.int x1, .int v3.1])) 2 rfl ?_
        refine ax_Wp.brD hD rfl (fun _ hD => ?_) (fun _ hD => ?_)
        · refine ax_Wp.go (f' := (210, [some (.ref 0), some (.int v3.1), some (.int x1), some (.int v52), none, none, none, none], [.int (nI 1)])) 2 rfl ?_
          obtain rfl := inj hD
          exact ax_Wp.dead kkv57 ⟨.inl rfl, ⟨.inr ⟨rfl, trivial⟩, ⟨.inr ⟨rfl, trivial⟩, ⟨.inl rfl, ⟨.inl rfl, ⟨.inl rfl, ⟨.inl rfl, ⟨.inl rfl, trivial⟩⟩⟩⟩⟩⟩⟩⟩
        · refine ax_Wp.go (f' := (198, [some (.ref 0), some (.int v3.1), some (.int x1), some (.int v52), none, none, none, none], [.ref 0])) 1 rfl ?_
          refine bnd hD (fun x59 hx hD => ?_)
          refine ax_Wp.callE (f' := (201, [some (.ref 0), some (.int v3.1), some (.int x1), some (.int v52), none, none, none, none], [])) rfl rfl (w_110 (d := d + 5) hx) rfl ?_
          refine ax_Wp.go (f' := (202, [some (.ref 0), some (.int v3.1), some (.int x1), some (.int v52), none, none, none, none], [.int (nI 2), .int x59])) 1 rfl ?_
          refine ax_Wp.brD hD rfl (fun _ hD => ?_) (fun _ hD => ?_)
          · refine ax_Wp.go (f' := (210, [some (.ref 0), some (.int v3.1), some (.int x1), some (.int v52), none, none, none, none], [.int (-1)])) 1 rfl ?_
            obtain rfl := inj hD
            exact ax_Wp.dead kkv57 ⟨.inl rfl, ⟨.inr ⟨rfl, trivial⟩, ⟨.inr ⟨rfl, trivial⟩, ⟨.inl rfl, ⟨.inl rfl, ⟨.inl rfl, ⟨.inl rfl, ⟨.inl rfl, trivial⟩⟩⟩⟩⟩⟩⟩⟩
          · refine ax_Wp.go (f' := (210, [some (.ref 0), some (.int v3.1), some (.int x1), some (.int v52), none, none, none, none], [.int (nI 2)])) 2 rfl ?_
            obtain rfl := inj hD
            exact ax_Wp.dead kkv57 ⟨.inl rfl, ⟨.inr ⟨rfl, trivial⟩, ⟨.inr ⟨rfl, trivial⟩, ⟨.inl rfl, ⟨.inl rfl, ⟨.inl rfl, ⟨.inl rfl, ⟨.inl rfl, trivial⟩⟩⟩⟩⟩⟩⟩⟩
    clear hD
    have hD := hx
    clear hx
    refine ax_Wp.brD hD rfl (fun _ hD => ?_) (fun _ hD => ?_)
    · refine ax_Wp.go (f' := (183, [some (.ref 0), some (.int v3.1), some (.int x1), some (.int v3.2), none, none, none, none], [.int (nI 0)])) 1 rfl ?_
      obtain rfl := inj hD
      exact ax_Wp.dead kkv52 ⟨.inl rfl, ⟨.inl rfl, ⟨.inl rfl, ⟨.inr ⟨rfl, trivial⟩, ⟨.inl rfl, ⟨.inl rfl, ⟨.inl rfl, ⟨.inl rfl, trivial⟩⟩⟩⟩⟩⟩⟩⟩
    · refine ax_Wp.go (f' := (145, [some (.ref 0), some (.int v3.1), some (.int x1), some (.int v3.2), none, none, none, none], [.ref 0])) 1 rfl ?_
      refine bnd hD (fun x53 hx hD => ?_)
      refine ax_Wp.callE (f' := (148, [some (.ref 0), some (.int v3.1), some (.int x1), some (.int v3.2), none, none, none, none], [])) rfl rfl (w_121 (d := d + 5) hx) rfl ?_
      refine ax_Wp.go (f' := (150, [some (.ref 0), some (.int v3.1), some (.int x1), some (.int v3.2), none, none, none, none], [.double (FP.i2d x1), .double x53])) 2 rfl ?_
      refine ax_Wp.flD hD rfl (fun x54 hD => ?_)
      refine ax_Wp.go (f' := (156, [some (.ref 0), some (.int v3.1), some (.int x1), some (.int v3.2), none, none, none, none], [.int (Op.cmpValue (FP.dcmp x54 (FP.i2d (v3.1 - (nI 1)))) .l)])) 5 rfl ?_
      refine ax_Wp.brD hD rfl (fun _ hD => ?_) (fun _ hD => ?_)
      · refine ax_Wp.go (f' := (183, [some (.ref 0), some (.int v3.1), some (.int x1), some (.int v3.2), none, none, none, none], [.int (nI 0)])) 1 rfl ?_
        obtain rfl := inj hD
        exact ax_Wp.dead kkv52 ⟨.inl rfl, ⟨.inl rfl, ⟨.inl rfl, ⟨.inr ⟨rfl, trivial⟩, ⟨.inl rfl, ⟨.inl rfl, ⟨.inl rfl, ⟨.inl rfl, trivial⟩⟩⟩⟩⟩⟩⟩⟩
      · refine ax_Wp.go (f' := (160, [some (.ref 0), some (.int v3.1), some (.int x1), some (.int v3.2), none, none, none, none], [.int x1])) 1 rfl ?_
        refine ax_Wp.brD hD rfl (fun _ hD => ?_) (fun _ hD => ?_)
        · refine ax_Wp.go (f' := (183, [some (.ref 0), some (.int v3.1), some (.int x1), some (.int v3.2), none, none, none, none], [.int (nI 1)])) 2 rfl ?_
          obtain rfl := inj hD
          exact ax_Wp.dead kkv52 ⟨.inl rfl, ⟨.inl rfl, ⟨.inl rfl, ⟨.inr ⟨rfl, trivial⟩, ⟨.inl rfl, ⟨.inl rfl, ⟨.inl rfl, ⟨.inl rfl, trivial⟩⟩⟩⟩⟩⟩⟩⟩
        · refine ax_Wp.go (f' := (164, [some (.ref 0), some (.int v3.1), some (.int x1), some (.int v3.2), none, none, none, none], [.ref 0])) 1 rfl ?_
          refine bnd hD (fun x55 hx hD => ?_)
          refine ax_Wp.callE (f' := (167, [some (.ref 0), some (.int v3.1), some (.int x1), some (.int v3.2), none, none, none, none], [])) rfl rfl (w_121 (d := d + 5) hx) rfl ?_
          refine ax_Wp.go (f' := (169, [some (.ref 0), some (.int v3.1), some (.int x1), some (.int v3.2), none, none, none, none], [.double (FP.i2d x1), .double x55])) 2 rfl ?_
          refine ax_Wp.flD hD rfl (fun x56 hD => ?_)
          refine ax_Wp.go (f' := (175, [some (.ref 0), some (.int v3.1), some (.int x1), some (.int v3.2), none, none, none, none], [.int (Op.cmpValue (FP.dcmp x56 (FP.i2d (v3.1 + (nI 1)))) .g)])) 5 rfl ?_
          refine ax_Wp.brD hD rfl (fun _ hD => ?_) (fun _ hD => ?_)
          · refine ax_Wp.go (f' := (183, [some (.ref 0), some (.int v3.1), some (.int x1), some (.int v3.2), none, none, none, none], [.int (nI 0)])) 1 rfl ?_
            obtain rfl := inj hD
            exact ax_Wp.dead kkv52 ⟨.inl rfl, ⟨.inl rfl, ⟨.inl rfl, ⟨.inr ⟨rfl, trivial⟩, ⟨.inl rfl, ⟨.inl rfl, ⟨.inl rfl, ⟨.inl rfl, trivial⟩⟩⟩⟩⟩⟩⟩⟩
          · refine ax_Wp.go (f' := (183, [some (.ref 0), some (.int v3.1), some (.int x1), some (.int v3.2), none, none, none, none], [.int (nI 1)])) 2 rfl ?_
            obtain rfl := inj hD
            exact ax_Wp.dead kkv52 ⟨.inl rfl, ⟨.inl rfl, ⟨.inl rfl, ⟨.inr ⟨rfl, trivial⟩, ⟨.inl rfl, ⟨.inl rfl, ⟨.inl rfl, ⟨.inl rfl, trivial⟩⟩⟩⟩⟩⟩⟩⟩
  clear hD
  refine ax_Wp.lpD (fun (s2 : Int32 × Int32 × Int32) => ((12, [some (.ref 0), some (.int s2.1), some (.int x1), some (.int s2.2.1), some (.int s2.2.2), none, none, none], []), stt m)) ?_ hx
  clear hx
  intro s2 v hD ks2
  refine ax_Wp.go (f' := (15, [some (.ref 0), some (.int s2.1), some (.int x1), some (.int s2.2.1), some (.int s2.2.2), none, none, none], [.int x1, .int s2.2.2])) 2 rfl ?_
  refine ax_Wp.brD hD rfl (fun _ hD => ?_) (fun _ hD => ?_)
  · obtain rfl := inj hD
    obtain rfl := ks2.o
    exact ax_Wp.dead kkv3 ⟨.inl rfl, ⟨.inl rfl, ⟨.inl rfl, ⟨.inl rfl, ⟨.inr ⟨rfl, trivial⟩, ⟨.inl rfl, ⟨.inl rfl, ⟨.inl rfl, trivial⟩⟩⟩⟩⟩⟩⟩⟩
  · refine ax_Wp.go (f' := (21, [some (.ref 0), some (.int s2.1), some (.int x1), some (.int s2.2.1), some (.int s2.2.2), none, none, none], [.int s2.2.2, .ref 0])) 2 rfl ?_
    refine cT.sp hD (fun x4 hx hD => ?_) (fun j5 hx hD => ?_)
    · refine ax_Wp.callE (f' := (24, [some (.ref 0), some (.int s2.1), some (.int x1), some (.int s2.2.1), some (.int s2.2.2), none, none, none], [])) rfl rfl (w_102 (d := d + 0) hx) rfl ?_
      refine ax_Wp.go (f' := (29, [some (.ref 0), some (.int s2.1), some (.int x1), some (.int s2.2.1), some (.int s2.2.2), some (.int x4), none, none], [.int s2.2.2, .ref 0])) 3 rfl ?_
      refine cT.sp hD (fun x7 hx hD => ?_) (fun j8 hx hD => ?_)
      · refine ax_Wp.callE (f' := (32, [some (.ref 0), some (.int s2.1), some (.int x1), some (.int s2.2.1), some (.int s2.2.2), some (.int x4), none, none], [])) rfl rfl (w_103 (d := d + 0) hx) rfl ?_
        refine ax_Wp.go (f' := (37, [some (.ref 0), some (.int s2.1), some (.int x1), some (.int s2.2.1), some (.int s2.2.2), some (.int x4), some (.int x7), none], [.int x7, .int s2.1])) 3 rfl ?_
        refine bnd hD (fun v10 hx hD => ?_)
        refine ax_Wp.jn (F := (45, [some (.ref 0), none, some (.int x1), some (.int s2.2.1), some (.int s2.2.2), some (.int x4), some (.int x7), none], [.int v10, .int s2.1])) (hh := stt m) ?_ (fun kkv10 => ?_)
        · refine ax_Wp.go (f' := (49, [some (.ref 0), some (.int (s2.1 + v10)), some (.int x1), some (.int s2.2.1), some (.int s2.2.2), some (.int x4), some (.int x7), none], [.int x4])) 3 rfl ?_
          refine bnd hD (fun v11 hx hD => ?_)
          refine ax_Wp.jn (F := (62, [some (.ref 0), some (.int (s2.1 + v10)), some (.int x1), some (.int s2.2.1), some (.int s2.2.2), some (.int x4), some (.int x7), none], [.int v11])) (hh := stt m) ?_ (fun kkv11 => ?_)
          · refine ax_Wp.go (f' := (65, [some (.ref 0), some (.int (s2.1 + v10)), some (.int x1), some (.int s2.2.1), some (.int s2.2.2), some (.int x4), some (.int x7), some (.int v11)], [.int s2.2.1])) 2 rfl ?_
            refine bnd hD (fun v15 hx hD => ?_)
            refine ax_Wp.jn (F := (133, [some (.ref 0), some (.int (s2.1 + v10)), some (.int x1), none, some (.int s2.2.2), none, none, none], [.int v15])) (hh := stt m) ?_ (fun kkv15 => ?_)
            · refine ax_Wp.go (f' := (12, [some (.ref 0), some (.int (s2.1 + v10)), some (.int x1), some (.int v15), some (.int (s2.2.2 + (nI 1))), none, none, none], [])) 3 rfl ?_
              obtain rfl := inj hD
              exact ks2.i
            clear hD
            have hD := hx
            clear hx
            refine ax_Wp.brD hD rfl (fun _ hD => ?_) (fun _ hD => ?_)
            · refine ax_Wp.go (f' := (133, [some (.ref 0), some (.int (s2.1 + v10)), some (.int x1), some (.int s2.2.1), some (.int s2.2.2), some (.int x4), some (.int x7), some (.int v11)], [.int (nI 0)])) 1 rfl ?_
              obtain rfl := inj hD
              exact ax_Wp.dead kkv15 ⟨.inl rfl, ⟨.inl rfl, ⟨.inl rfl, ⟨.inr ⟨rfl, trivial⟩, ⟨.inl rfl, ⟨.inr ⟨rfl, trivial⟩, ⟨.inr ⟨rfl, trivial⟩, ⟨.inr ⟨rfl, trivial⟩, trivial⟩⟩⟩⟩⟩⟩⟩⟩
            · refine ax_Wp.go (f' := (70, [some (.ref 0), some (.int (s2.1 + v10)), some (.int x1), some (.int s2.2.1), some (.int s2.2.2), some (.int x4), some (.int x7), some (.int v11)], [.int x4])) 1 rfl ?_
              refine ax_Wp.brD hD rfl (fun _ hD => ?_) (fun _ hD => ?_)
              · refine ax_Wp.go (f' := (80, [some (.ref 0), some (.int (s2.1 + v10)), some (.int x1), some (.int s2.2.1), some (.int s2.2.2), some (.int x4), some (.int x7), some (.int v11)], [.int x4])) 1 rfl ?_
                refine ax_Wp.brD hD rfl (fun _ hD => ?_) (fun _ hD => ?_)
                · refine ax_Wp.go (f' := (85, [some (.ref 0), some (.int (s2.1 + v10)), some (.int x1), some (.int s2.2.1), some (.int s2.2.2), some (.int x4), some (.int x7), some (.int v11)], [.int v11])) 1 rfl ?_
                  refine ax_Wp.brD hD rfl (fun _ hD => ?_) (fun _ hD => ?_)
                  · refine ax_Wp.go (f' := (133, [some (.ref 0), some (.int (s2.1 + v10)), some (.int x1), some (.int s2.2.1), some (.int s2.2.2), some (.int x4), some (.int x7), some (.int v11)], [.int (nI 0)])) 1 rfl ?_
                    obtain rfl := inj hD
                    exact ax_Wp.dead kkv15 ⟨.inl rfl, ⟨.inl rfl, ⟨.inl rfl, ⟨.inr ⟨rfl, trivial⟩, ⟨.inl rfl, ⟨.inr ⟨rfl, trivial⟩, ⟨.inr ⟨rfl, trivial⟩, ⟨.inr ⟨rfl, trivial⟩, trivial⟩⟩⟩⟩⟩⟩⟩⟩
                  · refine ax_Wp.go (f' := (91, [some (.ref 0), some (.int (s2.1 + v10)), some (.int x1), some (.int s2.2.1), some (.int s2.2.2), some (.int x4), some (.int x7), some (.int v11)], [.int (nI 4), .int v11])) 2 rfl ?_
                    refine ax_Wp.brD hD rfl (fun _ hD => ?_) (fun _ hD => ?_)
                    · refine ax_Wp.go (f' := (133, [some (.ref 0), some (.int (s2.1 + v10)), some (.int x1), some (.int s2.2.1), some (.int s2.2.2), some (.int x4), some (.int x7), some (.int v11)], [.int (nI 0)])) 1 rfl ?_
                      obtain rfl := inj hD
                      exact ax_Wp.dead kkv15 ⟨.inl rfl, ⟨.inl rfl, ⟨.inl rfl, ⟨.inr ⟨rfl, trivial⟩, ⟨.inl rfl, ⟨.inr ⟨rfl, trivial⟩, ⟨.inr ⟨rfl, trivial⟩, ⟨.inr ⟨rfl, trivial⟩, trivial⟩⟩⟩⟩⟩⟩⟩⟩
                    · refine ax_Wp.go (f' := (96, [some (.ref 0), some (.int (s2.1 + v10)), some (.int x1), some (.int s2.2.1), some (.int s2.2.2), some (.int x4), some (.int x7), some (.int v11)], [.int x4])) 1 rfl ?_
                      refine ax_Wp.brD hD rfl (fun _ hD => ?_) (fun _ hD => ?_)
                      · refine ax_Wp.go (f' := (101, [some (.ref 0), some (.int (s2.1 + v10)), some (.int x1), some (.int s2.2.1), some (.int s2.2.2), some (.int x4), some (.int x7), some (.int v11)], [.int x7])) 1 rfl ?_
                        refine ax_Wp.brD hD rfl (fun _ hD => ?_) (fun _ hD => ?_)
                        · refine ax_Wp.go (f' := (107, [some (.ref 0), some (.int (s2.1 + v10)), some (.int x1), some (.int s2.2.1), some (.int s2.2.2), some (.int x4), some (.int x7), some (.int v11)], [.int s2.2.2, .ref 0])) 2 rfl ?_
                          refine cT.sp hD (fun x16 hx hD => ?_) (fun j17 hx hD => ?_)
                          · refine ax_Wp.callE (f' := (110, [some (.ref 0), some (.int (s2.1 + v10)), some (.int x1), some (.int s2.2.1), some (.int s2.2.2), some (.int x4), some (.int x7), some (.int v11)], [])) rfl rfl (w_105 (d := d + 0) hx) rfl ?_
                            refine ax_Wp.go (f' := (113, [some (.ref 0), some (.int (s2.1 + v10)), some (.int x1), some (.int s2.2.1), some (.int s2.2.2), some (.int x4), some (.int x7), some (.int v11)], [.int v11, .ref 0, .int x16])) 2 rfl ?_
                            refine cT.sp hD (fun x19 hx hD => ?_) (fun j20 hx hD => ?_)
                            · refine ax_Wp.callE (f' := (116, [some (.ref 0), some (.int (s2.1 + v10)), some (.int x1), some (.int s2.2.1), some (.int s2.2.2), some (.int x4), some (.int x7), some (.int v11)], [.int x16])) rfl rfl (w_94 (d := d + 0) hx) rfl ?_
                              refine ax_Wp.brD hD rfl (fun _ hD => ?_) (fun _ hD => ?_)
                              · refine ax_Wp.go (f' := (122, [some (.ref 0), some (.int (s2.1 + v10)), some (.int x1), some (.int s2.2.1), some (.int s2.2.2), some (.int x4), some (.int x7), some (.int v11)], [.int v11, .ref 0])) 2 rfl ?_
                                refine cT.sp hD (fun x22 hx hD => ?_) (fun j23 hx hD => ?_)
                                · refine ax_Wp.callE (f' := (125, [some (.ref 0), some (.int (s2.1 + v10)), some (.int x1), some (.int s2.2.1), some (.int s2.2.2), some (.int x4), some (.int x7), some (.int v11)], [])) rfl rfl (w_96 (d := d + 0) hx) rfl ?_
                                  refine ax_Wp.brD hD rfl (fun _ hD => ?_) (fun _ hD => ?_)
                                  · refine ax_Wp.go (f' := (133, [some (.ref 0), some (.int (s2.1 + v10)), some (.int x1), some (.int s2.2.1), some (.int s2.2.2), some (.int x4), some (.int x7), some (.int v11)], [.int (nI 0)])) 1 rfl ?_
                                    obtain rfl := inj hD
                                    exact ax_Wp.dead kkv15 ⟨.inl rfl, ⟨.inl rfl, ⟨.inl rfl, ⟨.inr ⟨rfl, trivial⟩, ⟨.inl rfl, ⟨.inr ⟨rfl, trivial⟩, ⟨.inr ⟨rfl, trivial⟩, ⟨.inr ⟨rfl, trivial⟩, trivial⟩⟩⟩⟩⟩⟩⟩⟩
                                  · refine ax_Wp.go (f' := (133, [some (.ref 0), some (.int (s2.1 + v10)), some (.int x1), some (.int s2.2.1), some (.int s2.2.2), some (.int x4), some (.int x7), some (.int v11)], [.int (nI 1)])) 2 rfl ?_
                                    obtain rfl := inj hD
                                    exact ax_Wp.dead kkv15 ⟨.inl rfl, ⟨.inl rfl, ⟨.inl rfl, ⟨.inr ⟨rfl, trivial⟩, ⟨.inl rfl, ⟨.inr ⟨rfl, trivial⟩, ⟨.inr ⟨rfl, trivial⟩, ⟨.inr ⟨rfl, trivial⟩, trivial⟩⟩⟩⟩⟩⟩⟩⟩
                                · cases hD
                              · refine ax_Wp.go (f' := (133, [some (.ref 0), some (.int (s2.1 + v10)), some (.int x1), some (.int s2.2.1), some (.int s2.2.2), some (.int x4), some (.int x7), some (.int v11)], [.int (nI 0)])) 1 rfl ?_
                                obtain rfl := inj hD
                                exact ax_Wp.dead kkv15 ⟨.inl rfl, ⟨.inl rfl, ⟨.inl rfl, ⟨.inr ⟨rfl, trivial⟩, ⟨.inl rfl, ⟨.inr ⟨rfl, trivial⟩, ⟨.inr ⟨rfl, trivial⟩, ⟨.inr ⟨rfl, trivial⟩, trivial⟩⟩⟩⟩⟩⟩⟩⟩
                            · cases hD
                          · cases hD
                        · refine ax_Wp.go (f' := (133, [some (.ref 0), some (.int (s2.1 + v10)), some (.int x1), some (.int s2.2.1), some (.int s2.2.2), some (.int x4), some (.int x7), some (.int v11)], [.int (nI 1)])) 2 rfl ?_
                          obtain rfl := inj hD
                          exact ax_Wp.dead kkv15 ⟨.inl rfl, ⟨.inl rfl, ⟨.inl rfl, ⟨.inr ⟨rfl, trivial⟩, ⟨.inl rfl, ⟨.inr ⟨rfl, trivial⟩, ⟨.inr ⟨rfl, trivial⟩, ⟨.inr ⟨rfl, trivial⟩, trivial⟩⟩⟩⟩⟩⟩⟩⟩
                      · refine ax_Wp.go (f' := (133, [some (.ref 0), some (.int (s2.1 + v10)), some (.int x1), some (.int s2.2.1), some (.int s2.2.2), some (.int x4), some (.int x7), some (.int v11)], [.int (nI 1)])) 2 rfl ?_
                        obtain rfl := inj hD
                        exact ax_Wp.dead kkv15 ⟨.inl rfl, ⟨.inl rfl, ⟨.inl rfl, ⟨.inr ⟨rfl, trivial⟩, ⟨.inl rfl, ⟨.inr ⟨rfl, trivial⟩, ⟨.inr ⟨rfl, trivial⟩, ⟨.inr ⟨rfl, trivial⟩, trivial⟩⟩⟩⟩⟩⟩⟩⟩
                · refine ax_Wp.go (f' := (96, [some (.ref 0), some (.int (s2.1 + v10)), some (.int x1), some (.int s2.2.1), some (.int s2.2.2), some (.int x4), some (.int x7), some (.int v11)], [.int x4])) 1 rfl ?_
                  refine ax_Wp.brD hD rfl (fun _ hD => ?_) (fun _ hD => ?_)
                  · refine ax_Wp.go (f' := (101, [some (.ref 0), some (.int (s2.1 + v10)), some (.int x1), some (.int s2.2.1), some (.int s2.2.2), some (.int x4), some (.int x7), some (.int v11)], [.int x7])) 1 rfl ?_
                    refine ax_Wp.brD hD rfl (fun _ hD => ?_) (fun _ hD => ?_)
                    · refine ax_Wp.go (f' := (107, [some (.ref 0), some (.int (s2.1 + v10)), some (.int x1), some (.int s2.2.1), some (.int s2.2.2), some (.int x4), some (.int x7), some (.int v11)], [.int s2.2.2, .ref 0])) 2 rfl ?_
                      refine cT.sp hD (fun x25 hx hD => ?_) (fun j26 hx hD => ?_)
                      · refine ax_Wp.callE (f' := (110, [some (.ref 0), some (.int (s2.1 + v10)), some (.int x1), some (.int s2.2.1), some (.int s2.2.2), some (.int x4), some (.int x7), some (.int v11)], [])) rfl rfl (w_105 (d := d + 0) hx) rfl ?_
                        refine ax_Wp.go (f' := (113, [some (.ref 0), some (.int (s2.1 + v10)), some (.int x1), some (.int s2.2.1), some (.int s2.2.2), some (.int x4), some (.int x7), some (.int v11)], [.int v11, .ref 0, .int x25])) 2 rfl ?_
                        refine cT.sp hD (fun x28 hx hD => ?_) (fun j29 hx hD => ?_)
                        · refine ax_Wp.callE (f' := (116, [some (.ref 0), some (.int (s2.1 + v10)), some (.int x1), some (.int s2.2.1), some (.int s2.2.2), some (.int x4), some (.int x7), some (.int v11)], [.int x25])) rfl rfl (w_94 (d := d + 0) hx) rfl ?_
                          refine ax_Wp.brD hD rfl (fun _ hD => ?_) (fun _ hD => ?_)
                          · refine ax_Wp.go (f' := (122, [some (.ref 0), some (.int (s2.1 + v10)), some (.int x1), some (.int s2.2.1), some (.int s2.2.2), some (.int x4), some (.int x7), some (.int v11)], [.int v11, .ref 0])) 2 rfl ?_
                            refine cT.sp hD (fun x31 hx hD => ?_) (fun j32 hx hD => ?_)
                            · refine ax_Wp.callE (f' := (125, [some (.ref 0), some (.int (s2.1 + v10)), some (.int x1), some (.int s2.2.1), some (.int s2.2.2), some (.int x4), some (.int x7), some (.int v11)], [])) rfl rfl (w_96 (d := d + 0) hx) rfl ?_
                              refine ax_Wp.brD hD rfl (fun _ hD => ?_) (fun _ hD => ?_)
                              · refine ax_Wp.go (f' := (133, [some (.ref 0), some (.int (s2.1 + v10)), some (.int x1), some (.int s2.2.1), some (.int s2.2.2), some (.int x4), some (.int x7), some (.int v11)], [.int (nI 0)])) 1 rfl ?_
                                obtain rfl := inj hD
                                exact ax_Wp.dead kkv15 ⟨.inl rfl, ⟨.inl rfl, ⟨.inl rfl, ⟨.inr ⟨rfl, trivial⟩, ⟨.inl rfl, ⟨.inr ⟨rfl, trivial⟩, ⟨.inr ⟨rfl, trivial⟩, ⟨.inr ⟨rfl, trivial⟩, trivial⟩⟩⟩⟩⟩⟩⟩⟩
                              · refine ax_Wp.go (f' := (133, [some (.ref 0), some (.int (s2.1 + v10)), some (.int x1), some (.int s2.2.1), some (.int s2.2.2), some (.int x4), some (.int x7), some (.int v11)], [.int (nI 1)])) 2 rfl ?_
                                obtain rfl := inj hD
                                exact ax_Wp.dead kkv15 ⟨.inl rfl, ⟨.inl rfl, ⟨.inl rfl, ⟨.inr ⟨rfl, trivial⟩, ⟨.inl rfl, ⟨.inr ⟨rfl, trivial⟩, ⟨.inr ⟨rfl, trivial⟩, ⟨.inr ⟨rfl, trivial⟩, trivial⟩⟩⟩⟩⟩⟩⟩⟩
                            · cases hD
                          · refine ax_Wp.go (f' := (133, [some (.ref 0), some (.int (s2.1 + v10)), some (.int x1), some (.int s2.2.1), some (.int s2.2.2), some (.int x4), some (.int x7), some (.int v11)], [.int (nI 0)])) 1 rfl ?_
                            obtain rfl := inj hD
                            exact ax_Wp.dead kkv15 ⟨.inl rfl, ⟨.inl rfl, ⟨.inl rfl, ⟨.inr ⟨rfl, trivial⟩, ⟨.inl rfl, ⟨.inr ⟨rfl, trivial⟩, ⟨.inr ⟨rfl, trivial⟩, ⟨.inr ⟨rfl, trivial⟩, trivial⟩⟩⟩⟩⟩⟩⟩⟩
                        · cases hD
                      · cases hD
                    · refine ax_Wp.go (f' := (133, [some (.ref 0), some (.int (s2.1 + v10)), some (.int x1), some (.int s2.2.1), some (.int s2.2.2), some (.int x4), some (.int x7), some (.int v11)], [.int (nI 1)])) 2 rfl ?_
                      obtain rfl := inj hD
                      exact ax_Wp.dead kkv15 ⟨.inl rfl, ⟨.inl rfl, ⟨.inl rfl, ⟨.inr ⟨rfl, trivial⟩, ⟨.inl rfl, ⟨.inr ⟨rfl, trivial⟩, ⟨.inr ⟨rfl, trivial⟩, ⟨.inr ⟨rfl, trivial⟩, trivial⟩⟩⟩⟩⟩⟩⟩⟩
                  · refine ax_Wp.go (f' := (133, [some (.ref 0), some (.int (s2.1 + v10)), some (.int x1), some (.int s2.2.1), some (.int s2.2.2), some (.int x4), some (.int x7), some (.int v11)], [.int (nI 1)])) 2 rfl ?_
                    obtain rfl := inj hD
                    exact ax_Wp.dead kkv15 ⟨.inl rfl, ⟨.inl rfl, ⟨.inl rfl, ⟨.inr ⟨rfl, trivial⟩, ⟨.inl rfl, ⟨.inr ⟨rfl, trivial⟩, ⟨.inr ⟨rfl, trivial⟩, ⟨.inr ⟨rfl, trivial⟩, trivial⟩⟩⟩⟩⟩⟩⟩⟩
              · refine ax_Wp.go (f' := (75, [some (.ref 0), some (.int (s2.1 + v10)), some (.int x1), some (.int s2.2.1), some (.int s2.2.2), some (.int x4), some (.int x7), some (.int v11)], [.int x7])) 1 rfl ?_
                refine ax_Wp.brD hD rfl (fun _ hD => ?_) (fun _ hD => ?_)
                · refine ax_Wp.go (f' := (80, [some (.ref 0), some (.int (s2.1 + v10)), some (.int x1), some (.int s2.2.1), some (.int s2.2.2), some (.int x4), some (.int x7), some (.int v11)], [.int x4])) 1 rfl ?_
                  refine ax_Wp.brD hD rfl (fun _ hD => ?_) (fun _ hD => ?_)
                  · refine ax_Wp.go (f' := (85, [some (.ref 0), some (.int (s2.1 + v10)), some (.int x1), some (.int s2.2.1), some (.int s2.2.2), some (.int x4), some (.int x7), some (.int v11)], [.int v11])) 1 rfl ?_
                    refine ax_Wp.brD hD rfl (fun _ hD => ?_) (fun _ hD => ?_)
                    · refine ax_Wp.go (f' := (133, [some (.ref 0), some (.int (s2.1 + v10)), some (.int x1), some (.int s2.2.1), some (.int s2.2.2), some (.int x4), some (.int x7), some (.int v11)], [.int (nI 0)])) 1 rfl ?_
                      obtain rfl := inj hD
                      exact ax_Wp.dead kkv15 ⟨.inl rfl, ⟨.inl rfl, ⟨.inl rfl, ⟨.inr ⟨rfl, trivial⟩, ⟨.inl rfl, ⟨.inr ⟨rfl, trivial⟩, ⟨.inr ⟨rfl, trivial⟩, ⟨.inr ⟨rfl, trivial⟩, trivial⟩⟩⟩⟩⟩⟩⟩⟩
                    · refine ax_Wp.go (f' := (91, [some (.ref 0), some (.int (s2.1 + v10)), some (.int x1), some (.int s2.2.1), some (.int s2.2.2), some (.int x4), some (.int x7), some (.int v11)], [.int (nI 4), .int v11])) 2 rfl ?_
                      refine ax_Wp.brD hD rfl (fun _ hD => ?_) (fun _ hD => ?_)
                      · refine ax_Wp.go (f' := (133, [some (.ref 0), some (.int (s2.1 + v10)), some (.int x1), some (.int s2.2.1), some (.int s2.2.2), some (.int x4), some (.int x7), some (.int v11)], [.int (nI 0)])) 1 rfl ?_
                        obtain rfl := inj hD
                        exact ax_Wp.dead kkv15 ⟨.inl rfl, ⟨.inl rfl, ⟨.inl rfl, ⟨.inr ⟨rfl, trivial⟩, ⟨.inl rfl, ⟨.inr ⟨rfl, trivial⟩, ⟨.inr ⟨rfl, trivial⟩, ⟨.inr ⟨rfl, trivial⟩, trivial⟩⟩⟩⟩⟩⟩⟩⟩
                      · refine ax_Wp.go (f' := (96, [some (.ref 0), some (.int (s2.1 + v10)), some (.int x1), some (.int s2.2.1), some (.int s2.2.2), some (.int x4), some (.int x7), some (.int v11)], [.int x4])) 1 rfl ?_
                        refine ax_Wp.brD hD rfl (fun _ hD => ?_) (fun _ hD => ?_)
                        · refine ax_Wp.go (f' := (101, [some (.ref 0), some (.int (s2.1 + v10)), some (.int x1), some (.int s2.2.1), some (.int s2.2.2), some (.int x4), some (.int x7), some (.int v11)], [.int x7])) 1 rfl ?_
                          refine ax_Wp.brD hD rfl (fun _ hD => ?_) (fun _ hD => ?_)
                          · refine ax_Wp.go (f' := (107, [some (.ref 0), some (.int (s2.1 + v10)), some (.int x1), some (.int s2.2.1), some (.int s2.2.2), some (.int x4), some (.int x7), some (.int v11)], [.int s2.2.2, .ref 0])) 2 rfl ?_
                            refine cT.sp hD (fun x34 hx hD => ?_) (fun j35 hx hD => ?_)
                            · refine ax_Wp.callE (f' := (110, [some (.ref 0), some (.int (s2.1 + v10)), some (.int x1), some (.int s2.2.1), some (.int s2.2.2), some (.int x4), some (.int x7), some (.int v11)], [])) rfl rfl (w_105 (d := d + 0) hx) rfl ?_
                              refine ax_Wp.go (f' := (113, [some (.ref 0), some (.int (s2.1 + v10)), some (.int x1), some (.int s2.2.1), some (.int s2.2.2), some (.int x4), some (.int x7), some (.int v11)], [.int v11, .ref 0, .int x34])) 2 rfl ?_
                              refine cT.sp hD (fun x37 hx hD => ?_) (fun j38 hx hD => ?_)
                              · refine ax_Wp.callE (f' := (116, [some (.ref 0), some (.int (s2.1 + v10)), some (.int x1), some (.int s2.2.1), some (.int s2.2.2), some (.int x4), some (.int x7), some (.int v11)], [.int x34])) rfl rfl (w_94 (d := d + 0) hx) rfl ?_
                                refine ax_Wp.brD hD rfl (fun _ hD => ?_) (fun _ hD => ?_)
                                · refine ax_Wp.go (f' := (122, [some (.ref 0), some (.int (s2.1 + v10)), some (.int x1), some (.int s2.2.1), some (.int s2.2.2), some (.int x4), some (.int x7), some (.int v11)], [.int v11, .ref 0])) 2 rfl ?_
                                  refine cT.sp hD (fun x40 hx hD => ?_) (fun j41 hx hD => ?_)
                                  · refine ax_Wp.callE (f' := (125, [some (.ref 0), some (.int (s2.1 + v10)), some (.int x1), some (.int s2.2.1), some (.int s2.2.2), some (.int x4), some (.int x7), some (.int v11)], [])) rfl rfl (w_96 (d := d + 0) hx) rfl ?_
                                    refine ax_Wp.brD hD rfl (fun _ hD => ?_) (fun _ hD => ?_)
                                    · refine ax_Wp.go (f' := (133, [some (.ref 0), some (.int (s2.1 + v10)), some (.int x1), some (.int s2.2.1), some (.int s2.2.2), some (.int x4), some (.int x7), some (.int v11)], [.int (nI 0)])) 1 rfl ?_
                                      obtain rfl := inj hD
                                      exact ax_Wp.dead kkv15 ⟨.inl rfl, ⟨.inl rfl, ⟨.inl rfl, ⟨.inr ⟨rfl, trivial⟩, ⟨.inl rfl, ⟨.inr ⟨rfl, trivial⟩, ⟨.inr ⟨rfl, trivial⟩, ⟨.inr ⟨rfl, trivial⟩, trivial⟩⟩⟩⟩⟩⟩⟩⟩
                                    · refine ax_Wp.go (f' := (133, [some (.ref 0), some (.int (s2.1 + v10)), some (.int x1), some (.int s2.2.1), some (.int s2.2.2), some (.int x4), some (.int x7), some (.int v11)], [.int (nI 1)])) 2 rfl ?_
                                      obtain rfl := inj hD
                                      exact ax_Wp.dead kkv15 ⟨.inl rfl, ⟨.inl rfl, ⟨.inl rfl, ⟨.inr ⟨rfl, trivial⟩, ⟨.inl rfl, ⟨.inr ⟨rfl, trivial⟩, ⟨.inr ⟨rfl, trivial⟩, ⟨.inr ⟨rfl, trivial⟩, trivial⟩⟩⟩⟩⟩⟩⟩⟩
                                  · cases hD
                                · refine ax_Wp.go (f' := (133, [some (.ref 0), some (.int (s2.1 + v10)), some (.int x1), some (.int s2.2.1), some (.int s2.2.2), some (.int x4), some (.int x7), some (.int v11)], [.int (nI 0)])) 1 rfl ?_
                                  obtain rfl := inj hD
                                  exact ax_Wp.dead kkv15 ⟨.inl rfl, ⟨.inl rfl, ⟨.inl rfl, ⟨.inr ⟨rfl, trivial⟩, ⟨.inl rfl, ⟨.inr ⟨rfl, trivial⟩, ⟨.inr ⟨rfl, trivial⟩, ⟨.inr ⟨rfl, trivial⟩, trivial⟩⟩⟩⟩⟩⟩⟩⟩
                              · cases hD
                            · cases hD
                          · refine ax_Wp.go (f' := (133, [some (.ref 0), some (.int (s2.1 + v10)), some (.int x1), some (.int s2.2.1), some (.int s2.2.2), some (.int x4), some (.int x7), some (.int v11)], [.int (nI 1)])) 2 rfl ?_
                            obtain rfl := inj hD
                            exact ax_Wp.dead kkv15 ⟨.inl rfl, ⟨.inl rfl, ⟨.inl rfl, ⟨.inr ⟨rfl, trivial⟩, ⟨.inl rfl, ⟨.inr ⟨rfl, trivial⟩, ⟨.inr ⟨rfl, trivial⟩, ⟨.inr ⟨rfl, trivial⟩, trivial⟩⟩⟩⟩⟩⟩⟩⟩
                        · refine ax_Wp.go (f' := (133, [some (.ref 0), some (.int (s2.1 + v10)), some (.int x1), some (.int s2.2.1), some (.int s2.2.2), some (.int x4), some (.int x7), some (.int v11)], [.int (nI 1)])) 2 rfl ?_
                          obtain rfl := inj hD
                          exact ax_Wp.dead kkv15 ⟨.inl rfl, ⟨.inl rfl, ⟨.inl rfl, ⟨.inr ⟨rfl, trivial⟩, ⟨.inl rfl, ⟨.inr ⟨rfl, trivial⟩, ⟨.inr ⟨rfl, trivial⟩, ⟨.inr ⟨rfl, trivial⟩, trivial⟩⟩⟩⟩⟩⟩⟩⟩
                  · refine ax_Wp.go (f' := (96, [some (.ref 0), some (.int (s2.1 + v10)), some (.int x1), some (.int s2.2.1), some (.int s2.2.2), some (.int x4), some (.int x7), some (.int v11)], [.int x4])) 1 rfl ?_
                    refine ax_Wp.brD hD rfl (fun _ hD => ?_) (fun _ hD => ?_)
                    · refine ax_Wp.go (f' := (101, [some (.ref 0), some (.int (s2.1 + v10)), some (.int x1), some (.int s2.2.1), some (.int s2.2.2), some (.int x4), some (.int x7), some (.int v11)], [.int x7])) 1 rfl ?_
                      refine ax_Wp.brD hD rfl (fun _ hD => ?_) (fun _ hD => ?_)
                      · refine ax_Wp.go (f' := (107, [some (.ref 0), some (.int (s2.1 + v10)), some (.int x1), some (.int s2.2.1), some (.int s2.2.2), some (.int x4), some (.int x7), some (.int v11)], [.int s2.2.2, .ref 0])) 2 rfl ?_
                        refine cT.sp hD (fun x43 hx hD => ?_) (fun j44 hx hD => ?_)
                        · refine ax_Wp.callE (f' := (110, [some (.ref 0), some (.int (s2.1 + v10)), some (.int x1), some (.int s2.2.1), some (.int s2.2.2), some (.int x4), some (.int x7), some (.int v11)], [])) rfl rfl (w_105 (d := d + 0) hx) rfl ?_
                          refine ax_Wp.go (f' := (113, [some (.ref 0), some (.int (s2.1 + v10)), some (.int x1), some (.int s2.2.1), some (.int s2.2.2), some (.int x4), some (.int x7), some (.int v11)], [.int v11, .ref 0, .int x43])) 2 rfl ?_
                          refine cT.sp hD (fun x46 hx hD => ?_) (fun j47 hx hD => ?_)
                          · refine ax_Wp.callE (f' := (116, [some (.ref 0), some (.int (s2.1 + v10)), some (.int x1), some (.int s2.2.1), some (.int s2.2.2), some (.int x4), some (.int x7), some (.int v11)], [.int x43])) rfl rfl (w_94 (d := d + 0) hx) rfl ?_
                            refine ax_Wp.brD hD rfl (fun _ hD => ?_) (fun _ hD => ?_)
                            · refine ax_Wp.go (f' := (122, [some (.ref 0), some (.int (s2.1 + v10)), some (.int x1), some (.int s2.2.1), some (.int s2.2.2), some (.int x4), some (.int x7), some (.int v11)], [.int v11, .ref 0])) 2 rfl ?_
                              refine cT.sp hD (fun x49 hx hD => ?_) (fun j50 hx hD => ?_)
                              · refine ax_Wp.callE (f' := (125, [some (.ref 0), some (.int (s2.1 + v10)), some (.int x1), some (.int s2.2.1), some (.int s2.2.2), some (.int x4), some (.int x7), some (.int v11)], [])) rfl rfl (w_96 (d := d + 0) hx) rfl ?_
                                refine ax_Wp.brD hD rfl (fun _ hD => ?_) (fun _ hD => ?_)
                                · refine ax_Wp.go (f' := (133, [some (.ref 0), some (.int (s2.1 + v10)), some (.int x1), some (.int s2.2.1), some (.int s2.2.2), some (.int x4), some (.int x7), some (.int v11)], [.int (nI 0)])) 1 rfl ?_
                                  obtain rfl := inj hD
                                  exact ax_Wp.dead kkv15 ⟨.inl rfl, ⟨.inl rfl, ⟨.inl rfl, ⟨.inr ⟨rfl, trivial⟩, ⟨.inl rfl, ⟨.inr ⟨rfl, trivial⟩, ⟨.inr ⟨rfl, trivial⟩, ⟨.inr ⟨rfl, trivial⟩, trivial⟩⟩⟩⟩⟩⟩⟩⟩
                                · refine ax_Wp.go (f' := (133, [some (.ref 0), some (.int (s2.1 + v10)), some (.int x1), some (.int s2.2.1), some (.int s2.2.2), some (.int x4), some (.int x7), some (.int v11)], [.int (nI 1)])) 2 rfl ?_
                                  obtain rfl := inj hD
                                  exact ax_Wp.dead kkv15 ⟨.inl rfl, ⟨.inl rfl, ⟨.inl rfl, ⟨.inr ⟨rfl, trivial⟩, ⟨.inl rfl, ⟨.inr ⟨rfl, trivial⟩, ⟨.inr ⟨rfl, trivial⟩, ⟨.inr ⟨rfl, trivial⟩, trivial⟩⟩⟩⟩⟩⟩⟩⟩
                              · cases hD
                            · refine ax_Wp.go (f' := (133, [some (.ref 0), some (.int (s2.1 + v10)), some (.int x1), some (.int s2.2.1), some (.int s2.2.2), some (.int x4), some (.int x7), some (.int v11)], [.int (nI 0)])) 1 rfl ?_
                              obtain rfl := inj hD
                              exact ax_Wp.dead kkv15 ⟨.inl rfl, ⟨.inl rfl, ⟨.inl rfl, ⟨.inr ⟨rfl, trivial⟩, ⟨.inl rfl, ⟨.inr ⟨rfl, trivial⟩, ⟨.inr ⟨rfl, trivial⟩, ⟨.inr ⟨rfl, trivial⟩, trivial⟩⟩⟩⟩⟩⟩⟩⟩
                          · cases hD
                        · cases hD
                      · refine ax_Wp.go (f' := (133, [some (.ref 0), some (.int (s2.1 + v10)), some (.int x1), some (.int s2.2.1), some (.int s2.2.2), some (.int x4), some (.int x7), some (.int v11)], [.int (nI 1)])) 2 rfl ?_
                        obtain rfl := inj hD
                        exact ax_Wp.dead kkv15 ⟨.inl rfl, ⟨.inl rfl, ⟨.inl rfl, ⟨.inr ⟨rfl, trivial⟩, ⟨.inl rfl, ⟨.inr ⟨rfl, trivial⟩, ⟨.inr ⟨rfl, trivial⟩, ⟨.inr ⟨rfl, trivial⟩, trivial⟩⟩⟩⟩⟩⟩⟩⟩
                    · refine ax_Wp.go (f' := (133, [some (.ref 0), some (.int (s2.1 + v10)), some (.int x1), some (.int s2.2.1), some (.int s2.2.2), some (.int x4), some (.int x7), some (.int v11)], [.int (nI 1)])) 2 rfl ?_
                      obtain rfl := inj hD
                      exact ax_Wp.dead kkv15 ⟨.inl rfl, ⟨.inl rfl, ⟨.inl rfl, ⟨.inr ⟨rfl, trivial⟩, ⟨.inl rfl, ⟨.inr ⟨rfl, trivial⟩, ⟨.inr ⟨rfl, trivial⟩, ⟨.inr ⟨rfl, trivial⟩, trivial⟩⟩⟩⟩⟩⟩⟩⟩
                · refine ax_Wp.go (f' := (133, [some (.ref 0), some (.int (s2.1 + v10)), some (.int x1), some (.int s2.2.1), some (.int s2.2.2), some (.int x4), some (.int x7), some (.int v11)], [.int (nI 0)])) 1 rfl ?_
                  obtain rfl := inj hD
                  exact ax_Wp.dead kkv15 ⟨.inl rfl, ⟨.inl rfl, ⟨.inl rfl, ⟨.inr ⟨rfl, trivial⟩, ⟨.inl rfl, ⟨.inr ⟨rfl, trivial⟩, ⟨.inr ⟨rfl, trivial⟩, ⟨.inr ⟨rfl, trivial⟩, trivial⟩⟩⟩⟩⟩⟩⟩⟩
          clear hD
          have hD := hx
          clear hx
          refine ax_Wp.brD hD rfl (fun _ hD => ?_) (fun _ hD => ?_)
          · refine ax_Wp.go (f' := (59, [some (.ref 0), some (.int (s2.1 + v10)), some (.int x1), some (.int s2.2.1), some (.int s2.2.2), some (.int x4), some (.int x7), none], [.int s2.2.2, .ref 0])) 2 rfl ?_
            refine cT.sp hD (fun x12 hx hD => ?_) (fun j13 hx hD => ?_)
            · refine ax_Wp.callE (f' := (62, [some (.ref 0), some (.int (s2.1 + v10)), some (.int x1), some (.int s2.2.1), some (.int s2.2.2), some (.int x4), some (.int x7), none], [])) rfl rfl (w_104 (d := d + 0) hx) rfl ?_
              obtain rfl := inj hD
              exact kkv11
            · cases hD
          · refine ax_Wp.go (f' := (62, [some (.ref 0), some (.int (s2.1 + v10)), some (.int x1), some (.int s2.2.1), some (.int s2.2.2), some (.int x4), some (.int x7), none], [.int (-1)])) 2 rfl ?_
            obtain rfl := inj hD
            exact kkv11
        clear hD
        have hD := hx
        clear hx
        refine ax_Wp.brD hD rfl (fun _ hD => ?_) (fun _ hD => ?_)
        · refine ax_Wp.go (f' := (45, [some (.ref 0), some (.int s2.1), some (.int x1), some (.int s2.2.1), some (.int s2.2.2), some (.int x4), some (.int x7), none], [.int (nI 0), .int s2.1])) 1 rfl ?_
          obtain rfl := inj hD
          exact ax_Wp.dead kkv10 ⟨.inl rfl, ⟨.inr ⟨rfl, trivial⟩, ⟨.inl rfl, ⟨.inl rfl, ⟨.inl rfl, ⟨.inl rfl, ⟨.inl rfl, ⟨.inl rfl, trivial⟩⟩⟩⟩⟩⟩⟩⟩
        · refine ax_Wp.go (f' := (45, [some (.ref 0), some (.int s2.1), some (.int x1), some (.int s2.2.1), some (.int s2.2.2), some (.int x4), some (.int x7), none], [.int (nI 1), .int s2.1])) 2 rfl ?_
          obtain rfl := inj hD
          exact ax_Wp.dead kkv10 ⟨.inl rfl, ⟨.inr ⟨rfl, trivial⟩, ⟨.inl rfl, ⟨.inl rfl, ⟨.inl rfl, ⟨.inl rfl, ⟨.inl rfl, ⟨.inl rfl, trivial⟩⟩⟩⟩⟩⟩⟩⟩
      · cases hD
    · cases hD
def D308 (m : dM) : Option (Int32 × dM) := (D112 m).bind fun (x1 : Int32) => if x1 = (nI 0) then (D109 m).bind fun (x2 : Int32) => Option.bind (lp (β := Int32 × Int32 × dM) 3000 (fun (s3 : Int32 × Int32 × Int32 × dM) => if (nI 4) ≤ s3.2.2.1 then some (.inr (s3.1, s3.2.1, s3.2.2.2)) else cG (D119 s3.2.2.2 s3.2.2.1) (fun (x5 : Int32) (m8 : dM) => (sI m8 130 12 s3.2.2.1 x5).bind fun (m9 : dM) => (gI m9 130 12 s3.2.2.1).bind fun (x10 : Int32) => Option.bind ((if x10 = (nI 0) then cT (D98 m9 s3.2.2.1) m9 (fun (x12 : Int32) => cT (D92 m9 x12) m9 (fun (x15 : Int32) => some x15) (fun (j16 : Nat) (m17 : dM) => none)) (fun (j13 : Nat) (m14 : dM) => none) else cT (D94 m9 s3.2.2.1) m9 (fun (x18 : Int32) => some x18) (fun (j19 : Nat) (m20 : dM) => none)) : Option (Int32)) fun (v11 : Int32) => (sI m9 130 12 ((nI 4) + s3.2.2.1) v11).bind fun (m21 : dM) => cT (D99 m21 s3.2.2.1) m21 (fun (x22 : Int32) => (sI m21 130 12 ((nI 8) + s3.2.2.1) x22).bind fun (m25 : dM) => (gI m25 130 12 s3.2.2.1).bind fun (x26 : Int32) => Option.bind ((if x26 = (nI 0) then some (nI 1) else some (nI 0)) : Option (Int32)) fun (v27 : Int32) => (gI m25 130 12 s3.2.2.1).bind fun (x28 : Int32) => Option.bind ((if x28 ≤ (nI 1) then some (nI 0) else some (nI 1)) : Option (Int32)) fun (v29 : Int32) => some (.inl (s3.1 + v27, s3.2.1 + v29, s3.2.2.1 + (nI 1), m25))) (fun (j23 : Nat) (m24 : dM) => none)) (fun (j6 : Nat) (m7 : dM) => none)) (nI 0, x2, nI 0, m)) fun (v4 : Int32 × Int32 × dM) => (D108 v4.2.2).bind fun (x30 : Int32) => cG (D79 v4.2.2) (fun (x31 : Int32) (m34 : dM) => Option.bind ((if x31 = v4.1 then (D108 m34).bind fun (x36 : Int32) => if x36 = (x30 + (nI 1)) then (D109 m34).bind fun (x37 : Int32) => if x37 = v4.2.1 then some (nI 1) else some (nI 0) else some (nI 0) else some (nI 0)) : Option (Int32)) fun (v35 : Int32) => Option.bind (lp (β := Int32) 3000 (fun (s38 : Int32 × Int32) => if (nI 4) ≤ s38.2 then some (.inr s38.1) else Option.bind ((if s38.1 = (nI 0) then some (nI 0) else cT (D100 m34 s38.2) m34 (fun (x41 : Int32) => (gI m34 130 12 s38.2).bind fun (x44 : Int32) => if x41 = x44 then cT (D94 m34 s38.2) m34 (fun (x45 : Int32) => (gI m34 130 12 ((nI 4) + s38.2)).bind fun (x48 : Int32) => if x45 = x48 then cT (D99 m34 s38.2) m34 (fun (x49 : Int32) => (gI m34 130 12 ((nI 8) + s38.2)).bind fun (x52 : Int32) => (gI m34 130 12 s38.2).bind fun (x53 : Int32) => Option.bind ((if x53 = (nI 0) then some (nI 1) else some (nI 0)) : Option (Int32)) fun (v54 : Int32) => if x49 = (x52 + v54) then cT (D97 m34 s38.2) m34 (fun (x55 : Int32) => if x55 = (nI 0) then some (nI 1) else some (nI 0)) (fun (j56 : Nat) (m57 : dM) => none) else some (nI 0)) (fun (j50 : Nat) (m51 : dM) => none) else some (nI 0)) (fun (j46 : Nat) (m47 : dM) => none) else some (nI 0)) (fun (j42 : Nat) (m43 : dM) => none)) : Option (Int32)) fun (v40 : Int32) => some (.inl (v40, s38.2 + (nI 1)))) (v35, nI 0)) fun (v39 : Int32) => cG (D86 m34) (fun (x58 : Int32) (m61 : dM) => Option.bind ((if v39 = (nI 0) then some (nI 0) else (D89 m61).bind fun (x63 : Int32) => if x58 = x63 then (D108 m61).bind fun (x64 : Int32) => if x64 = x30 then some (nI 1) else some (nI 0) else some (nI 0)) : Option (Int32)) fun (v62 : Int32) => (gB v62).bind fun (b65 : Int32) => some (b65, m61)) (fun (j59 : Nat) (m60 : dM) => none)) (fun (j32 : Nat) (m33 : dM) => none) else some (nI 1, m)
set_option maxRecDepth 20000 in
theorem w_308 {X : Nat × (Nat → Int32)} {d : Nat} {m : dM} {r : Int32 × dM} (hD : D308 m = some r) : ax_Ev X (d + 8) 117 [.ref 0, .ref 130] (stt m) (.inl (some (.int r.1))) (stt r.2) := by
  unfold D308 at hD
  show ax_Wp X (d + 7 + 1) 117 (0, [some (.ref 0), some (.ref 130), none, none, none, none, none], []) (stt m) _
  refine ax_Wp.go (f' := (1, [some (.ref 0), some (.ref 130), none, none, none, none, none], [.ref 0])) 1 rfl ?_
  refine bnd hD (fun x1 hx hD => ?_)
  refine ax_Wp.callE (f' := (4, [some (.ref 0), some (.ref 130), none, none, none, none, none], [])) rfl rfl (w_112 (d := d + 4) hx) rfl ?_
  refine ax_Wp.brD hD rfl (fun _ hD => ?_) (fun _ hD => ?_)
  · refine ax_Wp.go (f' := (12, [some (.ref 0), some (.ref 130), some (.int (nI 0)), none, none, none, none], [.ref 0])) 3 rfl ?_
    refine bnd hD (fun x2 hx hD => ?_)
    refine ax_Wp.callE (f' := (15, [some (.ref 0), some (.ref 130), some (.int (nI 0)), none, none, none, none], [])) rfl rfl (w_109 (d := d + 6) hx) rfl ?_
    refine ax_Wp.go (f' := (19, [some (.ref 0), some (.ref 130), some (.int (nI 0)), some (.int x2), some (.int (nI 0)), none, none], [])) 3 rfl ?_
    refine bnd hD (fun v4 hx hD => ?_)
    refine ax_Wp.jn (F := (117, [some (.ref 0), some (.ref 130), some (.int v4.1), some (.int v4.2.1), none, none, none], [])) (hh := stt v4.2.2) ?_ (fun kkv4 => ?_)
    · refine ax_Wp.go (f' := (118, [some (.ref 0), some (.ref 130), some (.int v4.1), some (.int v4.2.1), none, none, none], [.ref 0])) 1 rfl ?_
      refine bnd hD (fun x30 hx hD => ?_)
      refine ax_Wp.callE (f' := (121, [some (.ref 0), some (.ref 130), some (.int v4.1), some (.int v4.2.1), none, none, none], [])) rfl rfl (w_108 (d := d + 6) hx) rfl ?_
      refine ax_Wp.go (f' := (124, [some (.ref 0), some (.ref 130), some (.int v4.1), some (.int v4.2.1), some (.int x30), none, none], [.ref 0])) 2 rfl ?_
      refine cG.sp hD (fun x31 m34 hx hD => ?_) (fun j32 m33 hx hD => ?_)
      · refine ax_Wp.callE (f' := (127, [some (.ref 0), some (.ref 130), some (.int v4.1), some (.int v4.2.1), some (.int x30), none, none], [])) rfl rfl (w_79 (d := d + 1) hx) rfl ?_
        refine ax_Wp.go (f' := (128, [some (.ref 0), some (.ref 130), some (.int v4.1), some (.int v4.2.1), some (.int x30), none, none], [.int v4.1, .int x31])) 1 rfl ?_
        refine bnd hD (fun v35 hx hD => ?_)
        refine ax_Wp.jn (F := (155, [some (.ref 0), some (.ref 130), none, none, some (.int x30), none, none], [.int v35])) (hh := stt m34) ?_ (fun kkv35 => ?_)
        · refine ax_Wp.go (f' := (160, [some (.ref 0), some (.ref 130), none, none, some (.int x30), some (.int v35), some (.int (nI 0))], [])) 3 rfl ?_
          refine bnd hD (fun v39 hx hD => ?_)
          refine ax_Wp.jn (F := (250, [some (.ref 0), some (.ref 130), none, none, some (.int x30), some (.int v39), none], [])) (hh := stt m34) ?_ (fun kkv39 => ?_)
          · refine ax_Wp.go (f' := (251, [some (.ref 0), some (.ref 130), none, none, some (.int x30), some (.int v39), none], [.ref 0])) 1 rfl ?_
            refine cG.sp hD (fun x58 m61 hx hD => ?_) (fun j59 m60 hx hD => ?_)
            · refine ax_Wp.callE (f' := (254, [some (.ref 0), some (.ref 130), none, none, some (.int x30), some (.int v39), none], [])) rfl rfl (w_86 (d := d + 1) hx) rfl ?_
              refine ax_Wp.go (f' := (258, [some (.ref 0), some (.ref 130), none, none, some (.int x30), some (.int v39), some (.int x58)], [.int v39])) 2 rfl ?_
              refine bnd hD (fun v62 hx hD => ?_)
              refine ax_Wp.jn (F := (284, [some (.ref 0), some (.ref 130), none, none, none, none, none], [.int v62])) (hh := stt m61) ?_ (fun kkv62 => ?_)
              · refine ax_Wp.retB hD rfl (fun b65 hD => ?_)
                obtain rfl := inj hD
                exact ⟨rfl, rfl⟩
              clear hD
              have hD := hx
              clear hx
              refine ax_Wp.brD hD rfl (fun _ hD => ?_) (fun _ hD => ?_)
              · refine ax_Wp.go (f' := (284, [some (.ref 0), some (.ref 130), none, none, some (.int x30), some (.int v39), some (.int x58)], [.int (nI 0)])) 1 rfl ?_
                obtain rfl := inj hD
                exact ax_Wp.dead kkv62 ⟨.inl rfl, ⟨.inl rfl, ⟨.inl rfl, ⟨.inl rfl, ⟨.inr ⟨rfl, trivial⟩, ⟨.inr ⟨rfl, trivial⟩, ⟨.inr ⟨rfl, trivial⟩, trivial⟩⟩⟩⟩⟩⟩⟩
              · refine ax_Wp.go (f' := (264, [some (.ref 0), some (.ref 130), none, none, some (.int x30), some (.int v39), some (.int x58)], [.ref 0, .int x58])) 2 rfl ?_
                refine bnd hD (fun x63 hx hD => ?_)
                refine ax_Wp.callE (f' := (267, [some (.ref 0), some (.ref 130), none, none, some (.int x30), some (.int v39), some (.int x58)], [.int x58])) rfl rfl (w_89 (d := d + 6) hx) rfl ?_
                refine ax_Wp.brD hD rfl (fun _ hD => ?_) (fun _ hD => ?_)
                · refine ax_Wp.go (f' := (271, [some (.ref 0), some (.ref 130), none, none, some (.int x30), some (.int v39), some (.int x58)], [.ref 0])) 1 rfl ?_
                  refine bnd hD (fun x64 hx hD => ?_)
                  refine ax_Wp.callE (f' := (274, [some (.ref 0), some (.ref 130), none, none, some (.int x30), some (.int v39), some (.int x58)], [])) rfl rfl (w_108 (d := d + 6) hx) rfl ?_
                  refine ax_Wp.go (f' := (276, [some (.ref 0), some (.ref 130), none, none, some (.int x30), some (.int v39), some (.int x58)], [.int x30, .int x64])) 1 rfl ?_
                  refine ax_Wp.brD hD rfl (fun _ hD => ?_) (fun _ hD => ?_)
                  · refine ax_Wp.go (f' := (284, [some (.ref 0), some (.ref 130), none, none, some (.int x30), some (.int v39), some (.int x58)], [.int (nI 1)])) 2 rfl ?_
                    obtain rfl := inj hD
                    exact ax_Wp.dead kkv62 ⟨.inl rfl, ⟨.inl rfl, ⟨.inl rfl, ⟨.inl rfl, ⟨.inr ⟨rfl, trivial⟩, ⟨.inr ⟨rfl, trivial⟩, ⟨.inr ⟨rfl, trivial⟩, trivial⟩⟩⟩⟩⟩⟩⟩
                  · refine ax_Wp.go (f' := (284, [some (.ref 0), some (.ref 130), none, none, some (.int x30), some (.int v39), some (.int x58)], [.int (nI 0)])) 1 rfl ?_
                    obtain rfl := inj hD
                    exact ax_Wp.dead kkv62 ⟨.inl rfl, ⟨.inl rfl, ⟨.inl rfl, ⟨.inl rfl, ⟨.inr ⟨rfl, trivial⟩, ⟨.inr ⟨rfl, trivial⟩, ⟨.inr ⟨rfl, trivial⟩, trivial⟩⟩⟩⟩⟩⟩⟩
                · refine ax_Wp.go (f' := (284, [some (.ref 0), some (.ref 130), none, none, some (.int x30), some (.int v39), some (.int x58)], [.int (nI 0)])) 1 rfl ?_
                  obtain rfl := inj hD
                  exact ax_Wp.dead kkv62 ⟨.inl rfl, ⟨.inl rfl, ⟨.inl rfl, ⟨.inl rfl, ⟨.inr ⟨rfl, trivial⟩, ⟨.inr ⟨rfl, trivial⟩, ⟨.inr ⟨rfl, trivial⟩, trivial⟩⟩⟩⟩⟩⟩⟩
            · cases hD
          clear hD
          refine ax_Wp.lpD (fun (s38 : Int32 × Int32) => ((160, [some (.ref 0), some (.ref 130), none, none, some (.int x30), some (.int s38.1), some (.int s38.2)], []), stt m34)) ?_ hx
          clear hx
          intro s38 v hD ks38
          refine ax_Wp.go (f' := (163, [some (.ref 0), some (.ref 130), none, none, some (.int x30), some (.int s38.1), some (.int s38.2)], [.int (nI 4), .int s38.2])) 2 rfl ?_
          refine ax_Wp.brD hD rfl (fun _ hD => ?_) (fun _ hD => ?_)
          · obtain rfl := inj hD
            obtain rfl := ks38.o
            exact ax_Wp.dead kkv39 ⟨.inl rfl, ⟨.inl rfl, ⟨.inl rfl, ⟨.inl rfl, ⟨.inl rfl, ⟨.inl rfl, ⟨.inr ⟨rfl, trivial⟩, trivial⟩⟩⟩⟩⟩⟩⟩
          · refine ax_Wp.go (f' := (168, [some (.ref 0), some (.ref 130), none, none, some (.int x30), some (.int s38.1), some (.int s38.2)], [.int s38.1])) 1 rfl ?_
            refine bnd hD (fun v40 hx hD => ?_)
            refine ax_Wp.jn (F := (242, [some (.ref 0), some (.ref 130), none, none, some (.int x30), none, some (.int s38.2)], [.int v40])) (hh := stt m34) ?_ (fun kkv40 => ?_)
            · refine ax_Wp.go (f' := (160, [some (.ref 0), some (.ref 130), none, none, some (.int x30), some (.int v40), some (.int (s38.2 + (nI 1)))], [])) 3 rfl ?_
              obtain rfl := inj hD
              exact ks38.i
            clear hD
            have hD := hx
            clear hx
            refine ax_Wp.brD hD rfl (fun _ hD => ?_) (fun _ hD => ?_)
            · refine ax_Wp.go (f' := (242, [some (.ref 0), some (.ref 130), none, none, some (.int x30), some (.int s38.1), some (.int s38.2)], [.int (nI 0)])) 1 rfl ?_
              obtain rfl := inj hD
              exact ax_Wp.dead kkv40 ⟨.inl rfl, ⟨.inl rfl, ⟨.inl rfl, ⟨.inl rfl, ⟨.inl rfl, ⟨.inr ⟨rfl, trivial⟩, ⟨.inl rfl, trivial⟩⟩⟩⟩⟩⟩⟩
            · refine ax_Wp.go (f' := (174, [some (.ref 0), some (.ref 130), none, none, some (.int x30), some (.int s38.1), some (.int s38.2)], [.int s38.2, .ref 0])) 2 rfl ?_
              refine cT.sp hD (fun x41 hx hD => ?_) (fun j42 hx hD => ?_)
              · refine ax_Wp.callE (f' := (177, [some (.ref 0), some (.ref 130), none, none, some (.int x30), some (.int s38.1), some (.int s38.2)], [])) rfl rfl (w_100 (d := d + 0) hx) rfl ?_
                refine ax_Wp.go (f' := (180, [some (.ref 0), some (.ref 130), none, none, some (.int x30), some (.int s38.1), some (.int s38.2)], [.int s38.2, .ref 130, .int x41])) 2 rfl ?_
                refine ax_Wp.rdI hD rfl rfl rfl (fun x44 hD => ?_)
                refine ax_Wp.brD hD rfl (fun _ hD => ?_) (fun _ hD => ?_)
                · refine ax_Wp.go (f' := (187, [some (.ref 0), some (.ref 130), none, none, some (.int x30), some (.int s38.1), some (.int s38.2)], [.int s38.2, .ref 0])) 2 rfl ?_
                  refine cT.sp hD (fun x45 hx hD => ?_) (fun j46 hx hD => ?_)
                  · refine ax_Wp.callE (f' := (190, [some (.ref 0), some (.ref 130), none, none, some (.int x30), some (.int s38.1), some (.int s38.2)], [])) rfl rfl (w_94 (d := d + 0) hx) rfl ?_
                    refine ax_Wp.go (f' := (195, [some (.ref 0), some (.ref 130), none, none, some (.int x30), some (.int s38.1), some (.int s38.2)], [.int ((nI 4) + s38.2), .ref 130, .int x45])) 4 rfl ?_
                    refine ax_Wp.rdI hD rfl rfl rfl (fun x48 hD => ?_)
                    refine ax_Wp.brD hD rfl (fun _ hD => ?_) (fun _ hD => ?_)
                    · refine ax_Wp.go (f' := (202, [some (.ref 0), some (.ref 130), none, none, some (.int x30), some (.int s38.1), some (.int s38.2)], [.int s38.2, .ref 0])) 2 rfl ?_
                      refine cT.sp hD (fun x49 hx hD => ?_) (fun j50 hx hD => ?_)
                      · refine ax_Wp.callE (f' := (205, [some (.ref 0), some (.ref 130), none, none, some (.int x30), some (.int s38.1), some (.int s38.2)], [])) rfl rfl (w_99 (d := d + 0) hx) rfl ?_
                        refine ax_Wp.go (f' := (211, [some (.ref 0), some (.ref 130), none, none, some (.int x30), some (.int s38.1), some (.int s38.2)], [.int ((nI 8) + s38.2), .ref 130, .int x49])) 4 rfl ?_
                        refine ax_Wp.rdI hD rfl rfl rfl (fun x52 hD => ?_)
                        refine ax_Wp.go (f' := (215, [some (.ref 0), some (.ref 130), none, none, some (.int x30), some (.int s38.1), some (.int s38.2)], [.int s38.2, .ref 130, .int x52, .int x49])) 2 rfl ?_
                        refine ax_Wp.rdI hD rfl rfl rfl (fun x53 hD => ?_)
                        refine bnd hD (fun v54 hx hD => ?_)
                        refine ax_Wp.jn (F := (224, [some (.ref 0), some (.ref 130), none, none, some (.int x30), none, some (.int s38.2)], [.int v54, .int x52, .int x49])) (hh := stt m34) ?_ (fun kkv54 => ?_)
                        · refine ax_Wp.go (f' := (225, [some (.ref 0), some (.ref 130), none, none, some (.int x30), none, some (.int s38.2)], [.int (x52 + v54), .int x49])) 1 rfl ?_
                          refine ax_Wp.brD hD rfl (fun _ hD => ?_) (fun _ hD => ?_)
                          · refine ax_Wp.go (f' := (231, [some (.ref 0), some (.ref 130), none, none, some (.int x30), none, some (.int s38.2)], [.int s38.2, .ref 0])) 2 rfl ?_
                            refine cT.sp hD (fun x55 hx hD => ?_) (fun j56 hx hD => ?_)
                            · refine ax_Wp.callE (f' := (234, [some (.ref 0), some (.ref 130), none, none, some (.int x30), none, some (.int s38.2)], [])) rfl rfl (w_97 (d := d + 0) hx) rfl ?_
                              refine ax_Wp.brD hD rfl (fun _ hD => ?_) (fun _ hD => ?_)
                              · refine ax_Wp.go (f' := (242, [some (.ref 0), some (.ref 130), none, none, some (.int x30), none, some (.int s38.2)], [.int (nI 1)])) 2 rfl ?_
                                obtain rfl := inj hD
                                exact kkv40
                              · refine ax_Wp.go (f' := (242, [some (.ref 0), some (.ref 130), none, none, some (.int x30), none, some (.int s38.2)], [.int (nI 0)])) 1 rfl ?_
                                obtain rfl := inj hD
                                exact kkv40
                            · cases hD
                          · refine ax_Wp.go (f' := (242, [some (.ref 0), some (.ref 130), none, none, some (.int x30), none, some (.int s38.2)], [.int (nI 0)])) 1 rfl ?_
                            obtain rfl := inj hD
                            exact kkv40
                        clear hD
                        have hD := hx
                        clear hx
                        refine ax_Wp.brD hD rfl (fun _ hD => ?_) (fun _ hD => ?_)
                        · refine ax_Wp.go (f' := (224, [some (.ref 0), some (.ref 130), none, none, some (.int x30), some (.int s38.1), some (.int s38.2)], [.int (nI 1), .int x52, .int x49])) 2 rfl ?_
                          obtain rfl := inj hD
                          exact ax_Wp.dead kkv54 ⟨.inl rfl, ⟨.inl rfl, ⟨.inl rfl, ⟨.inl rfl, ⟨.inl rfl, ⟨.inr ⟨rfl, trivial⟩, ⟨.inl rfl, trivial⟩⟩⟩⟩⟩⟩⟩
                        · refine ax_Wp.go (f' := (224, [some (.ref 0), some (.ref 130), none, none, some (.int x30), some (.int s38.1), some (.int s38.2)], [.int (nI 0), .int x52, .int x49])) 1 rfl ?_
                          obtain rfl := inj hD
                          exact ax_Wp.dead kkv54 ⟨.inl rfl, ⟨.inl rfl, ⟨.inl rfl, ⟨.inl rfl, ⟨.inl rfl, ⟨.inr ⟨rfl, trivial⟩, ⟨.inl rfl, trivial⟩⟩⟩⟩⟩⟩⟩
                      · cases hD
                    · refine ax_Wp.go (f' := (242, [some (.ref 0), some (.ref 130), none, none, some (.int x30), some (.int s38.1), some (.int s38.2)], [.int (nI 0)])) 1 rfl ?_
                      obtain rfl := inj hD
                      exact ax_Wp.dead kkv40 ⟨.inl rfl, ⟨.inl rfl, ⟨.inl rfl, ⟨.inl rfl, ⟨.inl rfl, ⟨.inr ⟨rfl, trivial⟩, ⟨.inl rfl, trivial⟩⟩⟩⟩⟩⟩⟩
                  · cases hD
                · refine ax_Wp.go (f' := (242, [some (.ref 0), some (.ref 130), none, none, some (.int x30), some (.int s38.1), some (.int s38.2)], [.int (nI 0)])) 1 rfl ?_
                  obtain rfl := inj hD
                  exact ax_Wp.dead kkv40 ⟨.inl rfl, ⟨.inl rfl, ⟨.inl rfl, ⟨.inl rfl, ⟨.inl rfl, ⟨.inr ⟨rfl, trivial⟩, ⟨.inl rfl, trivial⟩⟩⟩⟩⟩⟩⟩
              · cases hD
        clear hD
        have hD := hx
        clear hx
        refine ax_Wp.brD hD rfl (fun _ hD => ?_) (fun _ hD => ?_)
        · refine ax_Wp.go (f' := (132, [some (.ref 0), some (.ref 130), some (.int v4.1), some (.int v4.2.1), some (.int x30), none, none], [.ref 0])) 1 rfl ?_
          refine bnd hD (fun x36 hx hD => ?_)
          refine ax_Wp.callE (f' := (135, [some (.ref 0), some (.ref 130), some (.int v4.1), some (.int v4.2.1), some (.int x30), none, none], [])) rfl rfl (w_108 (d := d + 6) hx) rfl ?_
          refine ax_Wp.go (f' := (139, [some (.ref 0), some (.ref 130), some (.int v4.1), some (.int v4.2.1), some (.int x30), none, none], [.int (x30 + (nI 1)), .int x36])) 3 rfl ?_
          refine ax_Wp.brD hD rfl (fun _ hD => ?_) (fun _ hD => ?_)
          · refine ax_Wp.go (f' := (143, [some (.ref 0), some (.ref 130), some (.int v4.1), some (.int v4.2.1), some (.int x30), none, none], [.ref 0])) 1 rfl ?_
            refine bnd hD (fun x37 hx hD => ?_)
            refine ax_Wp.callE (f' := (146, [some (.ref 0), some (.ref 130), some (.int v4.1), some (.int v4.2.1), some (.int x30), none, none], [])) rfl rfl (w_109 (d := d + 6) hx) rfl ?_
            refine ax_Wp.go (f' := (147, [some (.ref 0), some (.ref 130), some (.int v4.1), some (.int v4.2.1), some (.int x30), none, none], [.int v4.2.1, .int x37])) 1 rfl ?_
            refine ax_Wp.brD hD rfl (fun _ hD => ?_) (fun _ hD => ?_)
            · refine ax_Wp.go (f' := (155, [some (.ref 0), some (.ref 130), some (.int v4.1), some (.int v4.2.1), some (.int x30), none, none], [.int (nI 1)])) 2 rfl ?_
              obtain rfl := inj hD
              exact ax_Wp.dead kkv35 ⟨.inl rfl, ⟨.inl rfl, ⟨.inr ⟨rfl, trivial⟩, ⟨.inr ⟨rfl, trivial⟩, ⟨.inl rfl, ⟨.inl rfl, ⟨.inl rfl, trivial⟩⟩⟩⟩⟩⟩⟩
            · refine ax_Wp.go (f' := (155, [some (.ref 0), some (.ref 130), some (.int v4.1), some (.int v4.2.1), some (.int x30), none, none], [.int (nI 0)])) 1 rfl ?_
              obtain rfl := inj hD
              exact ax_Wp.dead kkv35 ⟨.inl rfl, ⟨.inl rfl, ⟨.inr ⟨rfl, trivial⟩, ⟨.inr ⟨rfl, trivial⟩, ⟨.inl rfl, ⟨.inl rfl, ⟨.inl rfl, trivial⟩⟩⟩⟩⟩⟩⟩
          · refine ax_Wp.go (f' := (155, [some (.ref 0), some (.ref 130), some (.int v4.1), some (.int v4.2.1), some (.int x30), none, none], [.int (nI 0)])) 1 rfl ?_
            obtain rfl := inj hD
            exact ax_Wp.dead kkv35 ⟨.inl rfl, ⟨.inl rfl, ⟨.inr ⟨rfl, trivial⟩, ⟨.inr ⟨rfl, trivial⟩, ⟨.inl rfl, ⟨.inl rfl, ⟨.inl rfl, trivial⟩⟩⟩⟩⟩⟩⟩
        · refine ax_Wp.go (f' := (155, [some (.ref 0), some (.ref 130), some (.int v4.1), some (.int v4.2.1), some (.int x30), none, none], [.int (nI 0)])) 1 rfl ?_
          obtain rfl := inj hD
          exact ax_Wp.dead kkv35 ⟨.inl rfl, ⟨.inl rfl, ⟨.inr ⟨rfl, trivial⟩, ⟨.inr ⟨rfl, trivial⟩, ⟨.inl rfl, ⟨.inl rfl, ⟨.inl rfl, trivial⟩⟩⟩⟩⟩⟩⟩
      · cases hD
    clear hD
    refine ax_Wp.lpD (fun (s3 : Int32 × Int32 × Int32 × dM) => ((19, [some (.ref 0), some (.ref 130), some (.int s3.1), some (.int s3.2.1), some (.int s3.2.2.1), none, none], []), stt s3.2.2.2)) ?_ hx
    clear hx
    intro s3 v hD ks3
    refine ax_Wp.go (f' := (22, [some (.ref 0), some (.ref 130), some (.int s3.1), some (.int s3.2.1), some (.int s3.2.2.1), none, none], [.int (nI 4), .int s3.2.2.1])) 2 rfl ?_
    refine ax_Wp.brD hD rfl (fun _ hD => ?_) (fun _ hD => ?_)
    · obtain rfl := inj hD
      obtain rfl := ks3.o
      exact ax_Wp.dead kkv4 ⟨.inl rfl, ⟨.inl rfl, ⟨.inl rfl, ⟨.inl rfl, ⟨.inr ⟨rfl, trivial⟩, ⟨.inl rfl, ⟨.inl rfl, trivial⟩⟩⟩⟩⟩⟩⟩
    · refine ax_Wp.go (f' := (31, [some (.ref 0), some (.ref 130), some (.int s3.1), some (.int s3.2.1), some (.int s3.2.2.1), none, none], [.int s3.2.2.1, .ref 0, .int s3.2.2.1, .ref 130])) 4 rfl ?_
      refine cG.sp hD (fun x5 m8 hx hD => ?_) (fun j6 m7 hx hD => ?_)
      · refine ax_Wp.callE (f' := (34, [some (.ref 0), some (.ref 130), some (.int s3.1), some (.int s3.2.1), some (.int s3.2.2.1), none, none], [.int s3.2.2.1, .ref 130])) rfl rfl (w_119 (d := d + 0) hx) rfl ?_
        refine ax_Wp.wrI hD rfl rfl (fun _ => rfl) (fun m9 hD => ?_)
        refine ax_Wp.go (f' := (43, [some (.ref 0), some (.ref 130), some (.int s3.1), some (.int s3.2.1), some (.int s3.2.2.1), none, none], [.int s3.2.2.1, .ref 130, .int ((nI 4) + s3.2.2.1), .ref 130])) 6 rfl ?_
        refine ax_Wp.rdI hD rfl rfl rfl (fun x10 hD => ?_)
        refine bnd hD (fun v11 hx hD => ?_)
        refine ax_Wp.jn (F := (66, [some (.ref 0), some (.ref 130), some (.int s3.1), some (.int s3.2.1), some (.int s3.2.2.1), none, none], [.int v11, .int ((nI 4) + s3.2.2.1), .ref 130])) (hh := stt m9) ?_ (fun kkv11 => ?_)
        · refine ax_Wp.wrI hD rfl rfl (fun _ => rfl) (fun m21 hD => ?_)
          refine ax_Wp.go (f' := (76, [some (.ref 0), some (.ref 130), some (.int s3.1), some (.int s3.2.1), some (.int s3.2.2.1), none, none], [.int s3.2.2.1, .ref 0, .int ((nI 8) + s3.2.2.1), .ref 130])) 6 rfl ?_
          refine cT.sp hD (fun x22 hx hD => ?_) (fun j23 hx hD => ?_)
          · refine ax_Wp.callE (f' := (79, [some (.ref 0), some (.ref 130), some (.int s3.1), some (.int s3.2.1), some (.int s3.2.2.1), none, none], [.int ((nI 8) + s3.2.2.1), .ref 130])) rfl rfl (w_99 (d := d + 0) hx) rfl ?_
            refine ax_Wp.wrI hD rfl rfl (fun _ => rfl) (fun m25 hD => ?_)
            refine ax_Wp.go (f' := (84, [some (.ref 0), some (.ref 130), some (.int s3.1), some (.int s3.2.1), some (.int s3.2.2.1), none, none], [.int s3.2.2.1, .ref 130, .int s3.1])) 3 rfl ?_
            refine ax_Wp.rdI hD rfl rfl rfl (fun x26 hD => ?_)
            refine bnd hD (fun v27 hx hD => ?_)
            refine ax_Wp.jn (F := (93, [some (.ref 0), some (.ref 130), none, some (.int s3.2.1), some (.int s3.2.2.1), none, none], [.int v27, .int s3.1])) (hh := stt m25) ?_ (fun kkv27 => ?_)
            · refine ax_Wp.go (f' := (99, [some (.ref 0), some (.ref 130), some (.int (s3.1 + v27)), some (.int s3.2.1), some (.int s3.2.2.1), none, none], [.int s3.2.2.1, .ref 130, .int s3.2.1])) 5 rfl ?_
              refine ax_Wp.rdI hD rfl rfl rfl (fun x28 hD => ?_)
              refine ax_Wp.go (f' := (101, [some (.ref 0), some (.ref 130), some (.int (s3.1 + v27)), some (.int s3.2.1), some (.int s3.2.2.1), none, none], [.int (nI 1), .int x28, .int s3.2.1])) 1 rfl ?_
              refine bnd hD (fun v29 hx hD => ?_)
              refine ax_Wp.jn (F := (109, [some (.ref 0), some (.ref 130), some (.int (s3.1 + v27)), none, some (.int s3.2.2.1), none, none], [.int v29, .int s3.2.1])) (hh := stt m25) ?_ (fun kkv29 => ?_)
              · refine ax_Wp.go (f' := (19, [some (.ref 0), some (.ref 130), some (.int (s3.1 + v27)), some (.int (s3.2.1 + v29)), some (.int (s3.2.2.1 + (nI 1))), none, none], [])) 4 rfl ?_
                obtain rfl := inj hD
                exact ks3.i
              clear hD
              have hD := hx
              clear hx
              refine ax_Wp.brD hD rfl (fun _ hD => ?_) (fun _ hD => ?_)
              · refine ax_Wp.go (f' := (109, [some (.ref 0), some (.ref 130), some (.int (s3.1 + v27)), some (.int s3.2.1), some (.int s3.2.2.1), none, none], [.int (nI 0), .int s3.2.1])) 1 rfl ?_
                obtain rfl := inj hD
                exact ax_Wp.dead kkv29 ⟨.inl rfl, ⟨.inl rfl, ⟨.inl rfl, ⟨.inr ⟨rfl, trivial⟩, ⟨.inl rfl, ⟨.inl rfl, ⟨.inl rfl, trivial⟩⟩⟩⟩⟩⟩⟩
              · refine ax_Wp.go (f' := (109, [some (.ref 0), some (.ref 130), some (.int (s3.1 + v27)), some (.int s3.2.1), some (.int s3.2.2.1), none, none], [.int (nI 1), .int s3.2.1])) 2 rfl ?_
                obtain rfl := inj hD
                exact ax_Wp.dead kkv29 ⟨.inl rfl, ⟨.inl rfl, ⟨.inl rfl, ⟨.inr ⟨rfl, trivial⟩, ⟨.inl rfl, ⟨.inl rfl, ⟨.inl rfl, trivial⟩⟩⟩⟩⟩⟩⟩
            clear hD
            have hD := hx
            clear hx
            refine ax_Wp.brD hD rfl (fun _ hD => ?_) (fun _ hD => ?_)
            · refine ax_Wp.go (f' := (93, [some (.ref 0), some (.ref 130), some (.int s3.1), some (.int s3.2.1), some (.int s3.2.2.1), none, none], [.int (nI 1), .int s3.1])) 2 rfl ?_
              obtain rfl := inj hD
              exact ax_Wp.dead kkv27 ⟨.inl rfl, ⟨.inl rfl, ⟨.inr ⟨rfl, trivial⟩, ⟨.inl rfl, ⟨.inl rfl, ⟨.inl rfl, ⟨.inl rfl, trivial⟩⟩⟩⟩⟩⟩⟩
            · refine ax_Wp.go (f' := (93, [some (.ref 0), some (.ref 130), some (.int s3.1), some (.int s3.2.1), some (.int s3.2.2.1), none, none], [.int (nI 0), .int s3.1])) 1 rfl ?_
              obtain rfl := inj hD
              exact ax_Wp.dead kkv27 ⟨.inl rfl, ⟨.inl rfl, ⟨.inr ⟨rfl, trivial⟩, ⟨.inl rfl, ⟨.inl rfl, ⟨.inl rfl, ⟨.inl rfl, trivial⟩⟩⟩⟩⟩⟩⟩
          · cases hD
        clear hD
        have hD := hx
        clear hx
        refine ax_Wp.brD hD rfl (fun _ hD => ?_) (fun _ hD => ?_)
        · refine ax_Wp.go (f' := (51, [some (.ref 0), some (.ref 130), some (.int s3.1), some (.int s3.2.1), some (.int s3.2.2.1), none, none], [.int s3.2.2.1, .ref 0, .ref 0, .int ((nI 4) + s3.2.2.1), .ref 130])) 3 rfl ?_
          refine cT.sp hD (fun x12 hx hD => ?_) (fun j13 hx hD => ?_)
          · refine ax_Wp.callE (f' := (54, [some (.ref 0), some (.ref 130), some (.int s3.1), some (.int s3.2.1), some (.int s3.2.2.1), none, none], [.ref 0, .int ((nI 4) + s3.2.2.1), .ref 130])) rfl rfl (w_98 (d := d + 0) hx) rfl ?_
            refine cT.sp hD (fun x15 hx hD => ?_) (fun j16 hx hD => ?_)
            · refine ax_Wp.callE (f' := (57, [some (.ref 0), some (.ref 130), some (.int s3.1), some (.int s3.2.1), some (.int s3.2.2.1), none, none], [.int ((nI 4) + s3.2.2.1), .ref 130])) rfl rfl (w_92 (d := d + 0) hx) rfl ?_
              refine ax_Wp.go (f' := (66, [some (.ref 0), some (.ref 130), some (.int s3.1), some (.int s3.2.1), some (.int s3.2.2.1), none, none], [.int x15, .int ((nI 4) + s3.2.2.1), .ref 130])) 1 rfl ?_
              obtain rfl := inj hD
              exact kkv11
            · cases hD
          · cases hD
        · refine ax_Wp.go (f' := (63, [some (.ref 0), some (.ref 130), some (.int s3.1), some (.int s3.2.1), some (.int s3.2.2.1), none, none], [.int s3.2.2.1, .ref 0, .int ((nI 4) + s3.2.2.1), .ref 130])) 2 rfl ?_
          refine cT.sp hD (fun x18 hx hD => ?_) (fun j19 hx hD => ?_)
          · refine ax_Wp.callE (f' := (66, [some (.ref 0), some (.ref 130), some (.int s3.1), some (.int s3.2.1), some (.int s3.2.2.1), none, none], [.int ((nI 4) + s3.2.2.1), .ref 130])) rfl rfl (w_94 (d := d + 0) hx) rfl ?_
            obtain rfl := inj hD
            exact kkv11
          · cases hD
      · cases hD
  · refine ax_Wp.go (f' := (8, [some (.ref 0), some (.ref 130), none, none, none, none, none], [.int (nI 1)])) 1 rfl ?_
    obtain rfl := inj hD
    exact ax_Wp.ret rfl ⟨rfl, rfl⟩
def D306 (m : dM) : Option (Int32 × dM) := Option.bind (lp (β := Int32 × Int32 × dM) 3000 (fun (s1 : Int32 × Int32 × Int32 × dM) => if (nI 4) ≤ s1.2.2.1 then some (.inr (s1.1, s1.2.1, s1.2.2.2)) else cT (D97 s1.2.2.2 s1.2.2.1) s1.2.2.2 (fun (x3 : Int32) => Option.bind ((if s1.1 = (nI 0) then some (nI 0, s1.2.2.2) else cT (D94 s1.2.2.2 s1.2.2.1) s1.2.2.2 (fun (x7 : Int32) => (D305 s1.2.2.2 s1.2.2.1 x7).bind fun (x10 : Int32) => if x10 = (nI 0) then some (nI 0, s1.2.2.2) else if x3 = (nI 0) then cG (D119 s1.2.2.2 s1.2.2.1) (fun (x11 : Int32) (m14 : dM) => if x11 = (nI 1) then if x3 = (nI 0) then some (nI 1, m14) else cG (D119 m14 s1.2.2.1) (fun (x15 : Int32) (m18 : dM) => if x15 = (nI 1) then some (nI 0, m18) else some (nI 1, m18)) (fun (j16 : Nat) (m17 : dM) => none) else some (nI 0, m14)) (fun (j12 : Nat) (m13 : dM) => none) else if x3 = (nI 0) then some (nI 1, s1.2.2.2) else cG (D119 s1.2.2.2 s1.2.2.1) (fun (x19 : Int32) (m22 : dM) => if x19 = (nI 1) then some (nI 0, m22) else some (nI 1, m22)) (fun (j20 : Nat) (m21 : dM) => none)) (fun (j8 : Nat) (m9 : dM) => none)) : Option (Int32 × dM)) fun (v6 : Int32 × dM) => Option.bind ((if v6.1 = (nI 0) then some (nI 0) else if x3 = (nI 0) then some (nI 1) else cT (D98 v6.2 s1.2.2.1) v6.2 (fun (x24 : Int32) => cT (D93 v6.2 x24) v6.2 (fun (x27 : Int32) => if x27 = (nI 0) then some (nI 0) else cT (D98 v6.2 s1.2.2.1) v6.2 (fun (x30 : Int32) => cT (D91 v6.2 x30) v6.2 (fun (x33 : Int32) => cT (D94 v6.2 s1.2.2.1) v6.2 (fun (x36 : Int32) => if x33 = x36 then some (nI 1) else some (nI 0)) (fun (j37 : Nat) (m38 : dM) => none)) (fun (j34 : Nat) (m35 : dM) => none)) (fun (j31 : Nat) (m32 : dM) => none)) (fun (j28 : Nat) (m29 : dM) => none)) (fun (j25 : Nat) (m26 : dM) => none)) : Option (Int32)) fun (v23 : Int32) => cT (D113 v6.2 s1.2.2.1) v6.2 (fun (x39 : Int32) => Option.bind ((if v23 = (nI 0) then some (nI 0, v6.2) else cG (D114 v6.2 s1.2.2.1) (fun (x43 : Int32) (m46 : dM) => if x43 = x39 then cT (D94 m46 s1.2.2.1) m46 (fun (x47 : Int32) => if ((x39 >>> (x47 &&& nI 31)) &&& (nI 1)) = (nI 1) then some (nI 1, m46) else some (nI 0, m46)) (fun (j48 : Nat) (m49 : dM) => none) else some (nI 0, m46)) (fun (j44 : Nat) (m45 : dM) => none)) : Option (Int32 × dM)) fun (v42 : Int32 × dM) => Option.bind (lp (β := Int32) 3000 (fun (s50 : Int32 × Int32) => if (nI 10) ≤ s50.2 then some (.inr s50.1) else cT (D115 v42.2 s1.2.2.1 s50.2) v42.2 (fun (x52 : Int32) => Option.bind ((if s50.1 = (nI 0) then some (nI 0) else Option.bind ((if (nI 0) ≤ x52 then some (nI 0) else some (nI 1)) : Option (Int32)) fun (v56 : Int32) => Option.bind ((if ((x39 >>> (s50.2 &&& nI 31)) &&& (nI 1)) = (nI 0) then some (nI 1) else some (nI 0)) : Option (Int32)) fun (v57 : Int32) => if v56 = v57 then Option.bind ((if x52 = (nI 0) then some (nI 1) else some (nI 0)) : Option (Int32)) fun (v58 : Int32) => cT (D94 v42.2 s1.2.2.1) v42.2 (fun (x59 : Int32) => Option.bind ((if s50.2 = x59 then some (nI 1) else some (nI 0)) : Option (Int32)) fun (v62 : Int32) => if v58 = v62 then if (nI 10) ≤ x52 then some (nI 0) else some (nI 1) else some (nI 0)) (fun (j60 : Nat) (m61 : dM) => none) else some (nI 0)) : Option (Int32)) fun (v55 : Int32) => Option.bind ((if x52 ≤ (nI 0) then some v55 else cT (D116 v42.2 s1.2.2.1 s50.2) v42.2 (fun (x64 : Int32) => Option.bind ((if v55 = (nI 0) then some (nI 0) else cT (D93 v42.2 x64) v42.2 (fun (x68 : Int32) => if x68 = (nI 0) then some (nI 0) else cT (D91 v42.2 x64) v42.2 (fun (x71 : Int32) => cT (D94 v42.2 s1.2.2.1) v42.2 (fun (x74 : Int32) => if x71 = x74 then if (nI 1) < x52 then some (nI 1) else cT (D92 v42.2 x64) v42.2 (fun (x77 : Int32) => if x77 = s50.2 then some (nI 1) else some (nI 0)) (fun (j78 : Nat) (m79 : dM) => none) else some (nI 0)) (fun (j75 : Nat) (m76 : dM) => none)) (fun (j72 : Nat) (m73 : dM) => none)) (fun (j69 : Nat) (m70 : dM) => none)) : Option (Int32)) fun (v67 : Int32) => some v67) (fun (j65 : Nat) (m66 : dM) => none)) : Option (Int32)) fun (v63 : Int32) => some (.inl (v63, s50.2 + (nI 1)))) (fun (j53 : Nat) (m54 : dM) => none)) (v42.1, nI 0)) fun (v51 : Int32) => cT (D96 v42.2 s1.2.2.1) v42.2 (fun (x80 : Int32) => some (.inl (v51, s1.2.1 + x80, s1.2.2.1 + (nI 1), v42.2))) (fun (j81 : Nat) (m82 : dM) => none)) (fun (j40 : Nat) (m41 : dM) => none)) (fun (j4 : Nat) (m5 : dM) => none)) (nI 1, nI 0, nI 0, m)) fun (v2 : Int32 × Int32 × dM) => Option.bind ((if v2.1 = (nI 0) then some (nI 0) else (D120 v2.2.2).bind fun (x84 : UInt32) => (gF (FP.fmul x84 (1082130432 : UInt32))).bind fun (x85 : UInt32) => if (Op.cmpValue (FP.fcmp x85 (FP.i2f (v2.2.1 - (nI 1)))) .l) ≤ (nI 0) then some (nI 0) else (D120 v2.2.2).bind fun (x86 : UInt32) => (gF (FP.fmul x86 (1082130432 : UInt32))).bind fun (x87 : UInt32) => if (nI 0) ≤ (Op.cmpValue (FP.fcmp x87 (FP.i2f (v2.2.1 + (nI 1)))) .g) then some (nI 0) else some (nI 1)) : Option (Int32)) fun (v83 : Int32) => (gB v83).bind fun (b88 : Int32) => some (b88, v2.2.2)
set_option maxRecDepth 20000 in
theorem w_306 {X : Nat × (Nat → Int32)} {d : Nat} {m : dM} {r : Int32 × dM} (hD : D306 m = some r) : ax_Ev X (d + 9) 115 [.ref 0] (stt m) (.inl (some (.int r.1))) (stt r.2) := by
  unfold D306 at hD
  show ax_Wp X (d + 8 + 1) 115 (0, [some (.ref 0), none, none, none, none, none, none, none, none], []) (stt m) _
  refine ax_Wp.go (f' := (6, [some (.ref 0), some (.int (nI 1)), some (.int (nI 0)), some (.int (nI 0)), none, none, none, none, none], [])) 6 rfl ?_
  refine bnd hD (fun v2 hx hD => ?_)
  refine ax_Wp.jn (F := (330, [some (.ref 0), some (.int v2.1), some (.int v2.2.1), none, none, none, none, none, none], [])) (hh := stt v2.2.2) ?_ (fun kkv2 => ?_)
  · refine ax_Wp.go (f' := (331, [some (.ref 0), some (.int v2.1), some (.int v2.2.1), none, none, none, none, none, none], [.int v2.1])) 1 rfl ?_
    refine bnd hD (fun v83 hx hD => ?_)
    refine ax_Wp.jn (F := (369, [some (.ref 0), none, none, none, none, none, none, none, none], [.int v83])) (hh := stt v2.2.2) ?_ (fun kkv83 => ?_)
    · refine ax_Wp.retB hD rfl (fun b88 hD => ?_)
      obtain rfl := inj hD
      exact ⟨rfl, rfl⟩
    clear hD
    have hD := hx
    clear hx
    refine ax_Wp.brD hD rfl (fun _ hD => ?_) (fun _ hD => ?_)
    · refine ax_Wp.go (f' := (369, [some (.ref 0), some (.int v2.1), some (.int v2.2.1), none, none, none, none, none, none], [.int (nI 0)])) 1 rfl ?_
      obtain rfl := inj hD
      exact ax_Wp.dead kkv83 ⟨.inl rfl, ⟨.inr ⟨rfl, trivial⟩, ⟨.inr ⟨rfl, trivial⟩, ⟨.inl rfl, ⟨.inl rfl, ⟨.inl rfl, ⟨.inl rfl, ⟨.inl rfl, ⟨.inl rfl, trivial⟩⟩⟩⟩⟩⟩⟩⟩⟩
    · refine ax_Wp.go (f' := (335, [some (.ref 0), some (.int v2.1), some (.int v2.2.1), none, none, none, none, none, none], [.ref 0])) 1 rfl ?_
      refine bnd hD (fun x84 hx hD => ?_)
      refine ax_Wp.callE (f' := (338, [some (.ref 0), some (.int v2.1), some (.int v2.2.1), none, none, none, none, none, none], [])) rfl rfl (w_120 (d := d + 6) hx) rfl ?_
      refine ax_Wp.go (f' := (340, [some (.ref 0), some (.int v2.1), some (.int v2.2.1), none, none, none, none, none, none], [.float (1082130432 : UInt32), .float x84])) 1 rfl ?_
      refine ax_Wp.flF hD rfl (fun x85 hD => ?_)
      refine ax_Wp.go (f' := (346, [some (.ref 0), some (.int v2.1), some (.int v2.2.1), none, none, none, none, none, none], [.int (Op.cmpValue (FP.fcmp x85 (FP.i2f (v2.2.1 - (nI 1)))) .l)])) 5 rfl ?_
      refine ax_Wp.brD hD rfl (fun _ hD => ?_) (fun _ hD => ?_)
      · refine ax_Wp.go (f' := (369, [some (.ref 0), some (.int v2.1), some (.int v2.2.1), none, none, none, none, none, none], [.int (nI 0)])) 1 rfl ?_
        obtain rfl := inj hD
        exact ax_Wp.dead kkv83 ⟨.inl rfl, ⟨.inr ⟨rfl, trivial⟩, ⟨.inr ⟨rfl, trivial⟩, ⟨.inl rfl, ⟨.inl rfl, ⟨.inl rfl, ⟨.inl rfl, ⟨.inl rfl, ⟨.inl rfl, trivial⟩⟩⟩⟩⟩⟩⟩⟩⟩
      · refine ax_Wp.go (f' := (350, [some (.ref 0), some (.int v2.1), some (.int v2.2.1), none, none, none, none, none, none], [.ref 0])) 1 rfl ?_
        refine bnd hD (fun x86 hx hD => ?_)
        refine ax_Wp.callE (f' := (353, [some (.ref 0), some (.int v2.1), some (.int v2.2.1), none, none, none, none, none, none], [])) rfl rfl (w_120 (d := d + 6) hx) rfl ?_
        refine ax_Wp.go (f' := (355, [some (.ref 0), some (.int v2.1), some (.int v2.2.1), none, none, none, none, none, none], [.float (1082130432 : UInt32), .float x86])) 1 rfl ?_
        refine ax_Wp.flF hD rfl (fun x87 hD => ?_)
        refine ax_Wp.go (f' := (361, [some (.ref 0), some (.int v2.1), some (.int v2.2.1), none, none, none, none, none, none], [.int (Op.cmpValue (FP.fcmp x87 (FP.i2f (v2.2.1 + (nI 1)))) .g)])) 5 rfl ?_
        refine ax_Wp.brD hD rfl (fun _ hD => ?_) (fun _ hD => ?_)
        · refine ax_Wp.go (f' := (369, [some (.ref 0), some (.int v2.1), some (.int v2.2.1), none, none, none, none, none, none], [.int (nI 0)])) 1 rfl ?_
          obtain rfl := inj hD
          exact ax_Wp.dead kkv83 ⟨.inl rfl, ⟨.inr ⟨rfl, trivial⟩, ⟨.inr ⟨rfl, trivial⟩, ⟨.inl rfl, ⟨.inl rfl, ⟨.inl rfl, ⟨.inl rfl, ⟨.inl rfl, ⟨.inl rfl, trivial⟩⟩⟩⟩⟩⟩⟩⟩⟩
        · refine ax_Wp.go (f' := (369, [some (.ref 0), some (.int v2.1), some (.int v2.2.1), none, none, none, none, none, none], [.int (nI 1)])) 2 rfl ?_
          obtain rfl := inj hD
          exact ax_Wp.dead kkv83 ⟨.inl rfl, ⟨.inr ⟨rfl, trivial⟩, ⟨.inr ⟨rfl, trivial⟩, ⟨.inl rfl, ⟨.inl rfl, ⟨.inl rfl, ⟨.inl rfl, ⟨.inl rfl, ⟨.inl rfl, trivial⟩⟩⟩⟩⟩⟩⟩⟩⟩
  clear hD
  refine ax_Wp.lpD (fun (s1 : Int32 × Int32 × Int32 × dM) => ((6, [some (.ref 0), some (.int s1.1), some (.int s1.2.1), some (.int s1.2.2.1), none, none, none, none, none], []), stt s1.2.2.2)) ?_ hx
  clear hx
  intro s1 v hD ks1
  refine ax_Wp.go (f' := (8, [some (.ref 0), some (.int s1.1), some (.int s1.2.1), some (.int s1.2.2.1), none, none, none, none, none], [.int (nI 4), .int s1.2.2.1])) 2 rfl ?_
  refine ax_Wp.brD hD rfl (fun _ hD => ?_) (fun _ hD => ?_)
  · obtain rfl := inj hD
    obtain rfl := ks1.o
    exact ax_Wp.dead kkv2 ⟨.inl rfl, ⟨.inl rfl, ⟨.inl rfl, ⟨.inr ⟨rfl, trivial⟩, ⟨.inl rfl, ⟨.inl rfl, ⟨.inl rfl, ⟨.inl rfl, ⟨.inl rfl, trivial⟩⟩⟩⟩⟩⟩⟩⟩⟩
  · refine ax_Wp.go (f' := (13, [some (.ref 0), some (.int s1.1), some (.int s1.2.1), some (.int s1.2.2.1), none, none, none, none, none], [.int s1.2.2.1, .ref 0])) 2 rfl ?_
    refine cT.sp hD (fun x3 hx hD => ?_) (fun j4 hx hD => ?_)
    · refine ax_Wp.callE (f' := (16, [some (.ref 0), some (.int s1.1), some (.int s1.2.1), some (.int s1.2.2.1), none, none, none, none, none], [])) rfl rfl (w_97 (d := d + 1) hx) rfl ?_
      refine ax_Wp.go (f' := (19, [some (.ref 0), some (.int s1.1), some (.int s1.2.1), some (.int s1.2.2.1), some (.int x3), none, none, none, none], [.int s1.1])) 2 rfl ?_
      refine bnd hD (fun v6 hx hD => ?_)
      refine ax_Wp.jn (F := (68, [some (.ref 0), none, some (.int s1.2.1), some (.int s1.2.2.1), some (.int x3), none, none, none, none], [.int v6.1])) (hh := stt v6.2) ?_ (fun kkv6 => ?_)
      · refine ax_Wp.go (f' := (70, [some (.ref 0), some (.int v6.1), some (.int s1.2.1), some (.int s1.2.2.1), some (.int x3), none, none, none, none], [.int v6.1])) 2 rfl ?_
        refine bnd hD (fun v23 hx hD => ?_)
        refine ax_Wp.jn (F := (112, [some (.ref 0), none, some (.int s1.2.1), some (.int s1.2.2.1), none, none, none, none, none], [.int v23])) (hh := stt v6.2) ?_ (fun kkv23 => ?_)
        · refine ax_Wp.go (f' := (115, [some (.ref 0), some (.int v23), some (.int s1.2.1), some (.int s1.2.2.1), none, none, none, none, none], [.int s1.2.2.1, .ref 0])) 3 rfl ?_
          refine cT.sp hD (fun x39 hx hD => ?_) (fun j40 hx hD => ?_)
          · refine ax_Wp.callE (f' := (118, [some (.ref 0), some (.int v23), some (.int s1.2.1), some (.int s1.2.2.1), none, none, none, none, none], [])) rfl rfl (w_113 (d := d + 1) hx) rfl ?_
            refine ax_Wp.go (f' := (121, [some (.ref 0), some (.int v23), some (.int s1.2.1), some (.int s1.2.2.1), none, some (.int x39), none, none, none], [.int v23])) 2 rfl ?_
            refine bnd hD (fun v42 hx hD => ?_)
            refine ax_Wp.jn (F := (153, [some (.ref 0), none, some (.int s1.2.1), some (.int s1.2.2.1), none, some (.int x39), none, none, none], [.int v42.1])) (hh := stt v42.2) ?_ (fun kkv42 => ?_)
            · refine ax_Wp.go (f' := (157, [some (.ref 0), some (.int v42.1), some (.int s1.2.1), some (.int s1.2.2.1), none, some (.int x39), some (.int (nI 0)), none, none], [])) 3 rfl ?_
              refine bnd hD (fun v51 hx hD => ?_)
              refine ax_Wp.jn (F := (316, [some (.ref 0), some (.int v51), some (.int s1.2.1), some (.int s1.2.2.1), none, none, none, none, none], [])) (hh := stt v42.2) ?_ (fun kkv51 => ?_)
              · refine ax_Wp.go (f' := (319, [some (.ref 0), some (.int v51), some (.int s1.2.1), some (.int s1.2.2.1), none, none, none, none, none], [.int s1.2.2.1, .ref 0, .int s1.2.1])) 3 rfl ?_
                refine cT.sp hD (fun x80 hx hD => ?_) (fun j81 hx hD => ?_)
                · refine ax_Wp.callE (f' := (322, [some (.ref 0), some (.int v51), some (.int s1.2.1), some (.int s1.2.2.1), none, none, none, none, none], [.int s1.2.1])) rfl rfl (w_96 (d := d + 1) hx) rfl ?_
                  refine ax_Wp.go (f' := (6, [some (.ref 0), some (.int v51), some (.int (s1.2.1 + x80)), some (.int (s1.2.2.1 + (nI 1))), none, none, none, none, none], [])) 4 rfl ?_
                  obtain rfl := inj hD
                  exact ks1.i
                · cases hD
              clear hD
              refine ax_Wp.lpD (fun (s50 : Int32 × Int32) => ((157, [some (.ref 0), some (.int s50.1), some (.int s1.2.1), some (.int s1.2.2.1), none, some (.int x39), some (.int s50.2), none, none], []), stt v42.2)) ?_ hx
              clear hx
              intro s50 v hD ks50
              refine ax_Wp.go (f' := (161, [some (.ref 0), some (.int s50.1), some (.int s1.2.1), some (.int s1.2.2.1), none, some (.int x39), some (.int s50.2), none, none], [.int (nI 10), .int s50.2])) 2 rfl ?_
              refine ax_Wp.brD hD rfl (fun _ hD => ?_) (fun _ hD => ?_)
              · obtain rfl := inj hD
                obtain rfl := ks50.o
                exact ax_Wp.dead kkv51 ⟨.inl rfl, ⟨.inl rfl, ⟨.inl rfl, ⟨.inl rfl, ⟨.inl rfl, ⟨.inr ⟨rfl, trivial⟩, ⟨.inr ⟨rfl, trivial⟩, ⟨.inl rfl, ⟨.inl rfl, trivial⟩⟩⟩⟩⟩⟩⟩⟩⟩
              · refine ax_Wp.go (f' := (168, [some (.ref 0), some (.int s50.1), some (.int s1.2.1), some (.int s1.2.2.1), none, some (.int x39), some (.int s50.2), none, none], [.int s50.2, .int s1.2.2.1, .ref 0])) 3 rfl ?_
                refine cT.sp hD (fun x52 hx hD => ?_) (fun j53 hx hD => ?_)
                · refine ax_Wp.callE (f' := (171, [some (.ref 0), some (.int s50.1), some (.int s1.2.1), some (.int s1.2.2.1), none, some (.int x39), some (.int s50.2), none, none], [])) rfl rfl (w_115 (d := d + 1) hx) rfl ?_
                  refine ax_Wp.go (f' := (174, [some (.ref 0), some (.int s50.1), some (.int s1.2.1), some (.int s1.2.2.1), none, some (.int x39), some (.int s50.2), some (.int x52), none], [.int s50.1])) 2 rfl ?_
                  refine bnd hD (fun v55 hx hD => ?_)
                  refine ax_Wp.jn (F := (245, [some (.ref 0), none, some (.int s1.2.1), some (.int s1.2.2.1), none, some (.int x39), some (.int s50.2), some (.int x52), none], [.int v55])) (hh := stt v42.2) ?_ (fun kkv55 => ?_)
                  · refine ax_Wp.go (f' := (248, [some (.ref 0), some (.int v55), some (.int s1.2.1), some (.int s1.2.2.1), none, some (.int x39), some (.int s50.2), some (.int x52), none], [.int x52])) 2 rfl ?_
                    refine bnd hD (fun v63 hx hD => ?_)
                    refine ax_Wp.jn (F := (310, [some (.ref 0), some (.int v63), some (.int s1.2.1), some (.int s1.2.2.1), none, some (.int x39), some (.int s50.2), none, none], [])) (hh := stt v42.2) ?_ (fun kkv63 => ?_)
                    · refine ax_Wp.go (f' := (157, [some (.ref 0), some (.int v63), some (.int s1.2.1), some (.int s1.2.2.1), none, some (.int x39), some (.int (s50.2 + (nI 1))), none, none], [])) 2 rfl ?_
                      obtain rfl := inj hD
                      exact ks50.i
                    clear hD
                    have hD := hx
                    clear hx
                    refine ax_Wp.brD hD rfl (fun _ hD => ?_) (fun _ hD => ?_)
                    · obtain rfl := inj hD
                      exact ax_Wp.dead kkv63 ⟨.inl rfl, ⟨.inl rfl, ⟨.inl rfl, ⟨.inl rfl, ⟨.inl rfl, ⟨.inl rfl, ⟨.inl rfl, ⟨.inr ⟨rfl, trivial⟩, ⟨.inl rfl, trivial⟩⟩⟩⟩⟩⟩⟩⟩⟩
                    · refine ax_Wp.go (f' := (255, [some (.ref 0), some (.int v55), some (.int s1.2.1), some (.int s1.2.2.1), none, some (.int x39), some (.int s50.2), some (.int x52), none], [.int s50.2, .int s1.2.2.1, .ref 0])) 3 rfl ?_
                      refine cT.sp hD (fun x64 hx hD => ?_) (fun j65 hx hD => ?_)
                      · refine ax_Wp.callE (f' := (258, [some (.ref 0), some (.int v55), some (.int s1.2.1), some (.int s1.2.2.1), none, some (.int x39), some (.int s50.2), some (.int x52), none], [])) rfl rfl (w_116 (d := d + 1) hx) rfl ?_
                        refine ax_Wp.go (f' := (261, [some (.ref 0), some (.int v55), some (.int s1.2.1), some (.int s1.2.2.1), none, some (.int x39), some (.int s50.2), some (.int x52), some (.int x64)], [.int v55])) 2 rfl ?_
                        refine bnd hD (fun v67 hx hD => ?_)
                        refine ax_Wp.jn (F := (309, [some (.ref 0), none, some (.int s1.2.1), some (.int s1.2.2.1), none, some (.int x39), some (.int s50.2), none, none], [.int v67])) (hh := stt v42.2) ?_ (fun kkv67 => ?_)
                        · refine ax_Wp.go (f' := (310, [some (.ref 0), some (.int v67), some (.int s1.2.1), some (.int s1.2.2.1), none, some (.int x39), some (.int s50.2), none, none], [])) 1 rfl ?_
                          obtain rfl := inj hD
                          exact kkv63
                        clear hD
                        have hD := hx
                        clear hx
                        refine ax_Wp.brD hD rfl (fun _ hD => ?_) (fun _ hD => ?_)
                        · refine ax_Wp.go (f' := (309, [some (.ref 0), some (.int v55), some (.int s1.2.1), some (.int s1.2.2.1), none, some (.int x39), some (.int s50.2), some (.int x52), some (.int x64)], [.int (nI 0)])) 1 rfl ?_
                          obtain rfl := inj hD
                          exact ax_Wp.dead kkv67 ⟨.inl rfl, ⟨.inr ⟨rfl, trivial⟩, ⟨.inl rfl, ⟨.inl rfl, ⟨.inl rfl, ⟨.inl rfl, ⟨.inl rfl, ⟨.inr ⟨rfl, trivial⟩, ⟨.inr ⟨rfl, trivial⟩, trivial⟩⟩⟩⟩⟩⟩⟩⟩⟩
                        · refine ax_Wp.go (f' := (267, [some (.ref 0), some (.int v55), some (.int s1.2.1), some (.int s1.2.2.1), none, some (.int x39), some (.int s50.2), some (.int x52), some (.int x64)], [.int x64, .ref 0])) 2 rfl ?_
                          refine cT.sp hD (fun x68 hx hD => ?_) (fun j69 hx hD => ?_)
                          · refine ax_Wp.callE (f' := (270, [some (.ref 0), some (.int v55), some (.int s1.2.1), some (.int s1.2.2.1), none, some (.int x39), some (.int s50.2), some (.int x52), some (.int x64)], [])) rfl rfl (w_93 (d := d + 1) hx) rfl ?_
                            refine ax_Wp.brD hD rfl (fun _ hD => ?_) (fun _ hD => ?_)
                            · refine ax_Wp.go (f' := (309, [some (.ref 0), some (.int v55), some (.int s1.2.1), some (.int s1.2.2.1), none, some (.int x39), some (.int s50.2), some (.int x52), some (.int x64)], [.int (nI 0)])) 1 rfl ?_
                              obtain rfl := inj hD
                              exact ax_Wp.dead kkv67 ⟨.inl rfl, ⟨.inr ⟨rfl, trivial⟩, ⟨.inl rfl, ⟨.inl rfl, ⟨.inl rfl, ⟨.inl rfl, ⟨.inl rfl, ⟨.inr ⟨rfl, trivial⟩, ⟨.inr ⟨rfl, trivial⟩, trivial⟩⟩⟩⟩⟩⟩⟩⟩⟩
                            · refine ax_Wp.go (f' := (276, [some (.ref 0), some (.int v55), some (.int s1.2.1), some (.int s1.2.2.1), none, some (.int x39), some (.int s50.2), some (.int x52), some (.int x64)], [.int x64, .ref 0])) 2 rfl ?_
                              refine cT.sp hD (fun x71 hx hD => ?_) (fun j72 hx hD => ?_)
                              · refine ax_Wp.callE (f' := (279, [some (.ref 0), some (.int v55), some (.int s1.2.1), some (.int s1.2.2.1), none, some (.int x39), some (.int s50.2), some (.int x52), some (.int x64)], [])) rfl rfl (w_91 (d := d + 1) hx) rfl ?_
                                refine ax_Wp.go (f' := (281, [some (.ref 0), some (.int v55), some (.int s1.2.1), some (.int s1.2.2.1), none, some (.int x39), some (.int s50.2), some (.int x52), some (.int x64)], [.int s1.2.2.1, .ref 0, .int x71])) 2 rfl ?_
                                refine cT.sp hD (fun x74 hx hD => ?_) (fun j75 hx hD => ?_)
                                · refine ax_Wp.callE (f' := (284, [some (.ref 0), some (.int v55), some (.int s1.2.1), some (.int s1.2.2.1), none, some (.int x39), some (.int s50.2), some (.int x52), some (.int x64)], [.int x71])) rfl rfl (w_94 (d := d + 1) hx) rfl ?_
                                  refine ax_Wp.brD hD rfl (fun _ hD => ?_) (fun _ hD => ?_)
                                  · refine ax_Wp.go (f' := (290, [some (.ref 0), some (.int v55), some (.int s1.2.1), some (.int s1.2.2.1), none, some (.int x39), some (.int s50.2), some (.int x52), some (.int x64)], [.int (nI 1), .int x52])) 2 rfl ?_
                                    refine ax_Wp.brD hD rfl (fun _ hD => ?_) (fun _ hD => ?_)
                                    · refine ax_Wp.go (f' := (309, [some (.ref 0), some (.int v55), some (.int s1.2.1), some (.int s1.2.2.1), none, some (.int x39), some (.int s50.2), some (.int x52), some (.int x64)], [.int (nI 1)])) 2 rfl ?_
                                      obtain rfl := inj hD
                                      exact ax_Wp.dead kkv67 ⟨.inl rfl, ⟨.inr ⟨rfl, trivial⟩, ⟨.inl rfl, ⟨.inl rfl, ⟨.inl rfl, ⟨.inl rfl, ⟨.inl rfl, ⟨.inr ⟨rfl, trivial⟩, ⟨.inr ⟨rfl, trivial⟩, trivial⟩⟩⟩⟩⟩⟩⟩⟩⟩
                                    · refine ax_Wp.go (f' := (296, [some (.ref 0), some (.int v55), some (.int s1.2.1), some (.int s1.2.2.1), none, some (.int x39), some (.int s50.2), some (.int x52), some (.int x64)], [.int x64, .ref 0])) 2 rfl ?_
                                      refine cT.sp hD (fun x77 hx hD => ?_) (fun j78 hx hD => ?_)
                                      · refine ax_Wp.callE (f' := (299, [some (.ref 0), some (.int v55), some (.int s1.2.1), some (.int s1.2.2.1), none, some (.int x39), some (.int s50.2), some (.int x52), some (.int x64)], [])) rfl rfl (w_92 (d := d + 1) hx) rfl ?_
                                        refine ax_Wp.go (f' := (301, [some (.ref 0), some (.int v55), some (.int s1.2.1), some (.int s1.2.2.1), none, some (.int x39), some (.int s50.2), some (.int x52), some (.int x64)], [.int s50.2, .int x77])) 1 rfl ?_
                                        refine ax_Wp.brD hD rfl (fun _ hD => ?_) (fun _ hD => ?_)
                                        · refine ax_Wp.go (f' := (309, [some (.ref 0), some (.int v55), some (.int s1.2.1), some (.int s1.2.2.1), none, some (.int x39), some (.int s50.2), some (.int x52), some (.int x64)], [.int (nI 1)])) 2 rfl ?_
                                          obtain rfl := inj hD
                                          exact ax_Wp.dead kkv67 ⟨.inl rfl, ⟨.inr ⟨rfl, trivial⟩, ⟨.inl rfl, ⟨.inl rfl, ⟨.inl rfl, ⟨.inl rfl, ⟨.inl rfl, ⟨.inr ⟨rfl, trivial⟩, ⟨.inr ⟨rfl, trivial⟩, trivial⟩⟩⟩⟩⟩⟩⟩⟩⟩
                                        · refine ax_Wp.go (f' := (309, [some (.ref 0), some (.int v55), some (.int s1.2.1), some (.int s1.2.2.1), none, some (.int x39), some (.int s50.2), some (.int x52), some (.int x64)], [.int (nI 0)])) 1 rfl ?_
                                          obtain rfl := inj hD
                                          exact ax_Wp.dead kkv67 ⟨.inl rfl, ⟨.inr ⟨rfl, trivial⟩, ⟨.inl rfl, ⟨.inl rfl, ⟨.inl rfl, ⟨.inl rfl, ⟨.inl rfl, ⟨.inr ⟨rfl, trivial⟩, ⟨.inr ⟨rfl, trivial⟩, trivial⟩⟩⟩⟩⟩⟩⟩⟩⟩
                                      · cases hD
                                  · refine ax_Wp.go (f' := (309, [some (.ref 0), some (.int v55), some (.int s1.2.1), some (.int s1.2.2.1), none, some (.int x39), some (.int s50.2), some (.int x52), some (.int x64)], [.int (nI 0)])) 1 rfl ?_
                                    obtain rfl := inj hD
                                    exact ax_Wp.dead kkv67 ⟨.inl rfl, ⟨.inr ⟨rfl, trivial⟩, ⟨.inl rfl, ⟨.inl rfl, ⟨.inl rfl, ⟨.inl rfl, ⟨.inl rfl, ⟨.inr ⟨rfl, trivial⟩, ⟨.inr ⟨rfl, trivial⟩, trivial⟩⟩⟩⟩⟩⟩⟩⟩⟩
                                · cases hD
                              · cases hD
                          · cases hD
                      · cases hD
                  clear hD
                  have hD := hx
                  clear hx
                  refine ax_Wp.brD hD rfl (fun _ hD => ?_) (fun _ hD => ?_)
                  · refine ax_Wp.go (f' := (245, [some (.ref 0), some (.int s50.1), some (.int s1.2.1), some (.int s1.2.2.1), none, some (.int x39), some (.int s50.2), some (.int x52), none], [.int (nI 0)])) 1 rfl ?_
                    obtain rfl := inj hD
                    exact ax_Wp.dead kkv55 ⟨.inl rfl, ⟨.inr ⟨rfl, trivial⟩, ⟨.inl rfl, ⟨.inl rfl, ⟨.inl rfl, ⟨.inl rfl, ⟨.inl rfl, ⟨.inl rfl, ⟨.inl rfl, trivial⟩⟩⟩⟩⟩⟩⟩⟩⟩
                  · refine ax_Wp.go (f' := (179, [some (.ref 0), some (.int s50.1), some (.int s1.2.1), some (.int s1.2.2.1), none, some (.int x39), some (.int s50.2), some (.int x52), none], [.int x52])) 1 rfl ?_
                    refine bnd hD (fun v56 hx hD => ?_)
                    refine ax_Wp.jn (F := (187, [some (.ref 0), none, some (.int s1.2.1), some (.int s1.2.2.1), none, some (.int x39), some (.int s50.2), some (.int x52), none], [.int v56])) (hh := stt v42.2) ?_ (fun kkv56 => ?_)
                    · refine ax_Wp.go (f' := (194, [some (.ref 0), none, some (.int s1.2.1), some (.int s1.2.2.1), none, some (.int x39), some (.int s50.2), some (.int x52), none], [.int ((x39 >>> (s50.2 &&& nI 31)) &&& (nI 1)), .int v56])) 5 rfl ?_
                      refine bnd hD (fun v57 hx hD => ?_)
                      refine ax_Wp.jn (F := (202, [some (.ref 0), none, some (.int s1.2.1), some (.int s1.2.2.1), none, some (.int x39), some (.int s50.2), some (.int x52), none], [.int v57, .int v56])) (hh := stt v42.2) ?_ (fun kkv57 => ?_)
                      · refine ax_Wp.brD hD rfl (fun _ hD => ?_) (fun _ hD => ?_)
                        · refine ax_Wp.go (f' := (207, [some (.ref 0), none, some (.int s1.2.1), some (.int s1.2.2.1), none, some (.int x39), some (.int s50.2), some (.int x52), none], [.int x52])) 1 rfl ?_
                          refine bnd hD (fun v58 hx hD => ?_)
                          refine ax_Wp.jn (F := (215, [some (.ref 0), none, some (.int s1.2.1), some (.int s1.2.2.1), none, some (.int x39), some (.int s50.2), some (.int x52), none], [.int v58])) (hh := stt v42.2) ?_ (fun kkv58 => ?_)
                          · refine ax_Wp.go (f' := (219, [some (.ref 0), none, some (.int s1.2.1), some (.int s1.2.2.1), none, some (.int x39), some (.int s50.2), some (.int x52), none], [.int s1.2.2.1, .ref 0, .int s50.2, .int v58])) 3 rfl ?_
                            refine cT.sp hD (fun x59 hx hD => ?_) (fun j60 hx hD => ?_)
                            · refine ax_Wp.callE (f' := (222, [some (.ref 0), none, some (.int s1.2.1), some (.int s1.2.2.1), none, some (.int x39), some (.int s50.2), some (.int x52), none], [.int s50.2, .int v58])) rfl rfl (w_94 (d := d + 1) hx) rfl ?_
                              refine bnd hD (fun v62 hx hD => ?_)
                              refine ax_Wp.jn (F := (230, [some (.ref 0), none, some (.int s1.2.1), some (.int s1.2.2.1), none, some (.int x39), some (.int s50.2), some (.int x52), none], [.int v62, .int v58])) (hh := stt v42.2) ?_ (fun kkv62 => ?_)
                              · refine ax_Wp.brD hD rfl (fun _ hD => ?_) (fun _ hD => ?_)
                                · refine ax_Wp.go (f' := (237, [some (.ref 0), none, some (.int s1.2.1), some (.int s1.2.2.1), none, some (.int x39), some (.int s50.2), some (.int x52), none], [.int (nI 10), .int x52])) 2 rfl ?_
                                  refine ax_Wp.brD hD rfl (fun _ hD => ?_) (fun _ hD => ?_)
                                  · refine ax_Wp.go (f' := (245, [some (.ref 0), none, some (.int s1.2.1), some (.int s1.2.2.1), none, some (.int x39), some (.int s50.2), some (.int x52), none], [.int (nI 0)])) 1 rfl ?_
                                    obtain rfl := inj hD
                                    exact kkv55
                                  · refine ax_Wp.go (f' := (245, [some (.ref 0), none, some (.int s1.2.1), some (.int s1.2.2.1), none, some (.int x39), some (.int s50.2), some (.int x52), none], [.int (nI 1)])) 2 rfl ?_
                                    obtain rfl := inj hD
                                    exact kkv55
                                · refine ax_Wp.go (f' := (245, [some (.ref 0), none, some (.int s1.2.1), some (.int s1.2.2.1), none, some (.int x39), some (.int s50.2), some (.int x52), none], [.int (nI 0)])) 1 rfl ?_
                                  obtain rfl := inj hD
                                  exact kkv55
                              clear hD
                              have hD := hx
                              clear hx
                              refine ax_Wp.brD hD rfl (fun _ hD => ?_) (fun _ hD => ?_)
                              · refine ax_Wp.go (f' := (230, [some (.ref 0), none, some (.int s1.2.1), some (.int s1.2.2.1), none, some (.int x39), some (.int s50.2), some (.int x52), none], [.int (nI 1), .int v58])) 2 rfl ?_
                                obtain rfl := inj hD
                                exact kkv62
                              · refine ax_Wp.go (f' := (230, [some (.ref 0), none, some (.int s1.2.1), some (.int s1.2.2.1), none, some (.int x39), some (.int s50.2), some (.int x52), none], [.int (nI 0), .int v58])) 1 rfl ?_
                                obtain rfl := inj hD
                                exact kkv62
                            · cases hD
                          clear hD
                          have hD := hx
                          clear hx
                          refine ax_Wp.brD hD rfl (fun _ hD => ?_) (fun _ hD => ?_)
                          · refine ax_Wp.go (f' := (215, [some (.ref 0), none, some (.int s1.2.1), some (.int s1.2.2.1), none, some (.int x39), some (.int s50.2), some (.int x52), none], [.int (nI 1)])) 2 rfl ?_
                            obtain rfl := inj hD
                            exact kkv58
                          · refine ax_Wp.go (f' := (215, [some (.ref 0), none, some (.int s1.2.1), some (.int s1.2.2.1), none, some (.int x39), some (.int s50.2), some (.int x52), none], [.int (nI 0)])) 1 rfl ?_
                            obtain rfl := inj hD
                            exact kkv58
                        · refine ax_Wp.go (f' := (245, [some (.ref 0), none, some (.int s1.2.1), some (.int s1.2.2.1), none, some (.int x39), some (.int s50.2), some (.int x52), none], [.int (nI 0)])) 1 rfl ?_
                          obtain rfl := inj hD
                          exact kkv55
                      clear hD
                      have hD := hx
                      clear hx
                      refine ax_Wp.brD hD rfl (fun _ hD => ?_) (fun _ hD => ?_)
                      · refine ax_Wp.go (f' := (202, [some (.ref 0), none, some (.int s1.2.1), some (.int s1.2.2.1), none, some (.int x39), some (.int s50.2), some (.int x52), none], [.int (nI 1), .int v56])) 2 rfl ?_
                        obtain rfl := inj hD
                        exact kkv57
                      · refine ax_Wp.go (f' := (202, [some (.ref 0), none, some (.int s1.2.1), some (.int s1.2.2.1), none, some (.int x39), some (.int s50.2), some (.int x52), none], [.int (nI 0), .int v56])) 1 rfl ?_
                        obtain rfl := inj hD
                        exact kkv57
                    clear hD
                    have hD := hx
                    clear hx
                    refine ax_Wp.brD hD rfl (fun _ hD => ?_) (fun _ hD => ?_)
                    · refine ax_Wp.go (f' := (187, [some (.ref 0), some (.int s50.1), some (.int s1.2.1), some (.int s1.2.2.1), none, some (.int x39), some (.int s50.2), some (.int x52), none], [.int (nI 0)])) 1 rfl ?_
                      obtain rfl := inj hD
                      exact ax_Wp.dead kkv56 ⟨.inl rfl, ⟨.inr ⟨rfl, trivial⟩, ⟨.inl rfl, ⟨.inl rfl, ⟨.inl rfl, ⟨.inl rfl, ⟨.inl rfl, ⟨.inl rfl, ⟨.inl rfl, trivial⟩⟩⟩⟩⟩⟩⟩⟩⟩
                    · refine ax_Wp.go (f' := (187, [some (.ref 0), some (.int s50.1), some (.int s1.2.1), some (.int s1.2.2.1), none, some (.int x39), some (.int s50.2), some (.int x52), none], [.int (nI 1)])) 2 rfl ?_
                      obtain rfl := inj hD
                      exact ax_Wp.dead kkv56 ⟨.inl rfl, ⟨.inr ⟨rfl, trivial⟩, ⟨.inl rfl, ⟨.inl rfl, ⟨.inl rfl, ⟨.inl rfl, ⟨.inl rfl, ⟨.inl rfl, ⟨.inl rfl, trivial⟩⟩⟩⟩⟩⟩⟩⟩⟩
                · cases hD
            clear hD
            have hD := hx
            clear hx
            refine ax_Wp.brD hD rfl (fun _ hD => ?_) (fun _ hD => ?_)
            · refine ax_Wp.go (f' := (153, [some (.ref 0), some (.int v23), some (.int s1.2.1), some (.int s1.2.2.1), none, some (.int x39), none, none, none], [.int (nI 0)])) 1 rfl ?_
              obtain rfl := inj hD
              exact ax_Wp.dead kkv42 ⟨.inl rfl, ⟨.inr ⟨rfl, trivial⟩, ⟨.inl rfl, ⟨.inl rfl, ⟨.inl rfl, ⟨.inl rfl, ⟨.inl rfl, ⟨.inl rfl, ⟨.inl rfl, trivial⟩⟩⟩⟩⟩⟩⟩⟩⟩
            · refine ax_Wp.go (f' := (126, [some (.ref 0), some (.int v23), some (.int s1.2.1), some (.int s1.2.2.1), none, some (.int x39), none, none, none], [.int s1.2.2.1, .ref 0])) 2 rfl ?_
              refine cG.sp hD (fun x43 m46 hx hD => ?_) (fun j44 m45 hx hD => ?_)
              · refine ax_Wp.callE (f' := (129, [some (.ref 0), some (.int v23), some (.int s1.2.1), some (.int s1.2.2.1), none, some (.int x39), none, none, none], [])) rfl rfl (w_114 (d := d + 1) hx) rfl ?_
                refine ax_Wp.go (f' := (131, [some (.ref 0), some (.int v23), some (.int s1.2.1), some (.int s1.2.2.1), none, some (.int x39), none, none, none], [.int x39, .int x43])) 1 rfl ?_
                refine ax_Wp.brD hD rfl (fun _ hD => ?_) (fun _ hD => ?_)
                · refine ax_Wp.go (f' := (138, [some (.ref 0), some (.int v23), some (.int s1.2.1), some (.int s1.2.2.1), none, some (.int x39), none, none, none], [.int s1.2.2.1, .ref 0, .int x39])) 3 rfl ?_
                  refine cT.sp hD (fun x47 hx hD => ?_) (fun j48 hx hD => ?_)
                  · refine ax_Wp.callE (f' := (141, [some (.ref 0), some (.int v23), some (.int s1.2.1), some (.int s1.2.2.1), none, some (.int x39), none, none, none], [.int x39])) rfl rfl (w_94 (d := d + 1) hx) rfl ?_
                    refine ax_Wp.go (f' := (145, [some (.ref 0), some (.int v23), some (.int s1.2.1), some (.int s1.2.2.1), none, some (.int x39), none, none, none], [.int (nI 1), .int ((x39 >>> (x47 &&& nI 31)) &&& (nI 1))])) 4 rfl ?_
                    refine ax_Wp.brD hD rfl (fun _ hD => ?_) (fun _ hD => ?_)
                    · refine ax_Wp.go (f' := (153, [some (.ref 0), some (.int v23), some (.int s1.2.1), some (.int s1.2.2.1), none, some (.int x39), none, none, none], [.int (nI 1)])) 2 rfl ?_
                      obtain rfl := inj hD
                      exact ax_Wp.dead kkv42 ⟨.inl rfl, ⟨.inr ⟨rfl, trivial⟩, ⟨.inl rfl, ⟨.inl rfl, ⟨.inl rfl, ⟨.inl rfl, ⟨.inl rfl, ⟨.inl rfl, ⟨.inl rfl, trivial⟩⟩⟩⟩⟩⟩⟩⟩⟩
                    · refine ax_Wp.go (f' := (153, [some (.ref 0), some (.int v23), some (.int s1.2.1), some (.int s1.2.2.1), none, some (.int x39), none, none, none], [.int (nI 0)])) 1 rfl ?_
                      obtain rfl := inj hD
                      exact ax_Wp.dead kkv42 ⟨.inl rfl, ⟨.inr ⟨rfl, trivial⟩, ⟨.inl rfl, ⟨.inl rfl, ⟨.inl rfl, ⟨.inl rfl, ⟨.inl rfl, ⟨.inl rfl, ⟨.inl rfl, trivial⟩⟩⟩⟩⟩⟩⟩⟩⟩
                  · cases hD
                · refine ax_Wp.go (f' := (153, [some (.ref 0), some (.int v23), some (.int s1.2.1), some (.int s1.2.2.1), none, some (.int x39), none, none, none], [.int (nI 0)])) 1 rfl ?_
                  obtain rfl := inj hD
                  exact ax_Wp.dead kkv42 ⟨.inl rfl, ⟨.inr ⟨rfl, trivial⟩, ⟨.inl rfl, ⟨.inl rfl, ⟨.inl rfl, ⟨.inl rfl, ⟨.inl rfl, ⟨.inl rfl, ⟨.inl rfl, trivial⟩⟩⟩⟩⟩⟩⟩⟩⟩
              · cases hD
          · cases hD
        clear hD
        have hD := hx
        clear hx
        refine ax_Wp.brD hD rfl (fun _ hD => ?_) (fun _ hD => ?_)
        · refine ax_Wp.go (f' := (112, [some (.ref 0), some (.int v6.1), some (.int s1.2.1), some (.int s1.2.2.1), some (.int x3), none, none, none, none], [.int (nI 0)])) 1 rfl ?_
          obtain rfl := inj hD
          exact ax_Wp.dead kkv23 ⟨.inl rfl, ⟨.inr ⟨rfl, trivial⟩, ⟨.inl rfl, ⟨.inl rfl, ⟨.inr ⟨rfl, trivial⟩, ⟨.inl rfl, ⟨.inl rfl, ⟨.inl rfl, ⟨.inl rfl, trivial⟩⟩⟩⟩⟩⟩⟩⟩⟩
        · refine ax_Wp.go (f' := (75, [some (.ref 0), some (.int v6.1), some (.int s1.2.1), some (.int s1.2.2.1), some (.int x3), none, none, none, none], [.int x3])) 1 rfl ?_
          refine ax_Wp.brD hD rfl (fun _ hD => ?_) (fun _ hD => ?_)
          · refine ax_Wp.go (f' := (112, [some (.ref 0), some (.int v6.1), some (.int s1.2.1), some (.int s1.2.2.1), some (.int x3), none, none, none, none], [.int (nI 1)])) 2 rfl ?_
            obtain rfl := inj hD
            exact ax_Wp.dead kkv23 ⟨.inl rfl, ⟨.inr ⟨rfl, trivial⟩, ⟨.inl rfl, ⟨.inl rfl, ⟨.inr ⟨rfl, trivial⟩, ⟨.inl rfl, ⟨.inl rfl, ⟨.inl rfl, ⟨.inl rfl, trivial⟩⟩⟩⟩⟩⟩⟩⟩⟩
          · refine ax_Wp.go (f' := (81, [some (.ref 0), some (.int v6.1), some (.int s1.2.1), some (.int s1.2.2.1), some (.int x3), none, none, none, none], [.int s1.2.2.1, .ref 0, .ref 0])) 3 rfl ?_
            refine cT.sp hD (fun x24 hx hD => ?_) (fun j25 hx hD => ?_)
            · refine ax_Wp.callE (f' := (84, [some (.ref 0), some (.int v6.1), some (.int s1.2.1), some (.int s1.2.2.1), some (.int x3), none, none, none, none], [.ref 0])) rfl rfl (w_98 (d := d + 1) hx) rfl ?_
              refine cT.sp hD (fun x27 hx hD => ?_) (fun j28 hx hD => ?_)
              · refine ax_Wp.callE (f' := (87, [some (.ref 0), some (.int v6.1), some (.int s1.2.1), some (.int s1.2.2.1), some (.int x3), none, none, none, none], [])) rfl rfl (w_93 (d := d + 1) hx) rfl ?_
                refine ax_Wp.brD hD rfl (fun _ hD => ?_) (fun _ hD => ?_)
                · refine ax_Wp.go (f' := (112, [some (.ref 0), some (.int v6.1), some (.int s1.2.1), some (.int s1.2.2.1), some (.int x3), none, none, none, none], [.int (nI 0)])) 1 rfl ?_
                  obtain rfl := inj hD
                  exact ax_Wp.dead kkv23 ⟨.inl rfl, ⟨.inr ⟨rfl, trivial⟩, ⟨.inl rfl, ⟨.inl rfl, ⟨.inr ⟨rfl, trivial⟩, ⟨.inl rfl, ⟨.inl rfl, ⟨.inl rfl, ⟨.inl rfl, trivial⟩⟩⟩⟩⟩⟩⟩⟩⟩
                · refine ax_Wp.go (f' := (93, [some (.ref 0), some (.int v6.1), some (.int s1.2.1), some (.int s1.2.2.1), some (.int x3), none, none, none, none], [.int s1.2.2.1, .ref 0, .ref 0])) 3 rfl ?_
                  refine cT.sp hD (fun x30 hx hD => ?_) (fun j31 hx hD => ?_)
                  · refine ax_Wp.callE (f' := (96, [some (.ref 0), some (.int v6.1), some (.int s1.2.1), some (.int s1.2.2.1), some (.int x3), none, none, none, none], [.ref 0])) rfl rfl (w_98 (d := d + 1) hx) rfl ?_
                    refine cT.sp hD (fun x33 hx hD => ?_) (fun j34 hx hD => ?_)
                    · refine ax_Wp.callE (f' := (99, [some (.ref 0), some (.int v6.1), some (.int s1.2.1), some (.int s1.2.2.1), some (.int x3), none, none, none, none], [])) rfl rfl (w_91 (d := d + 1) hx) rfl ?_
                      refine ax_Wp.go (f' := (101, [some (.ref 0), some (.int v6.1), some (.int s1.2.1), some (.int s1.2.2.1), some (.int x3), none, none, none, none], [.int s1.2.2.1, .ref 0, .int x33])) 2 rfl ?_
                      refine cT.sp hD (fun x36 hx hD => ?_) (fun j37 hx hD => ?_)
                      · refine ax_Wp.callE (f' := (104, [some (.ref 0), some (.int v6.1), some (.int s1.2.1), some (.int s1.2.2.1), some (.int x3), none, none, none, none], [.int x33])) rfl rfl (w_94 (d := d + 1) hx) rfl ?_
                        refine ax_Wp.brD hD rfl (fun _ hD => ?_) (fun _ hD => ?_)
                        · refine ax_Wp.go (f' := (112, [some (.ref 0), some (.int v6.1), some (.int s1.2.1), some (.int s1.2.2.1), some (.int x3), none, none, none, none], [.int (nI 1)])) 2 rfl ?_
                          obtain rfl := inj hD
                          exact ax_Wp.dead kkv23 ⟨.inl rfl, ⟨.inr ⟨rfl, trivial⟩, ⟨.inl rfl, ⟨.inl rfl, ⟨.inr ⟨rfl, trivial⟩, ⟨.inl rfl, ⟨.inl rfl, ⟨.inl rfl, ⟨.inl rfl, trivial⟩⟩⟩⟩⟩⟩⟩⟩⟩
                        · refine ax_Wp.go (f' := (112, [some (.ref 0), some (.int v6.1), some (.int s1.2.1), some (.int s1.2.2.1), some (.int x3), none, none, none, none], [.int (nI 0)])) 1 rfl ?_
                          obtain rfl := inj hD
                          exact ax_Wp.dead kkv23 ⟨.inl rfl, ⟨.inr ⟨rfl, trivial⟩, ⟨.inl rfl, ⟨.inl rfl, ⟨.inr ⟨rfl, trivial⟩, ⟨.inl rfl, ⟨.inl rfl, ⟨.inl rfl, ⟨.inl rfl, trivial⟩⟩⟩⟩⟩⟩⟩⟩⟩
                      · cases hD
                    · cases hD
                  · cases hD
              · cases hD
            · cases hD
      clear hD
      have hD := hx
      clear hx
      refine ax_Wp.brD hD rfl (fun _ hD => ?_) (fun _ hD => ?_)
      · refine ax_Wp.go (f' := (68, [some (.ref 0), some (.int s1.1), some (.int s1.2.1), some (.int s1.2.2.1), some (.int x3), none, none, none, none], [.int (nI 0)])) 1 rfl ?_
        obtain rfl := inj hD
        exact ax_Wp.dead kkv6 ⟨.inl rfl, ⟨.inr ⟨rfl, trivial⟩, ⟨.inl rfl, ⟨.inl rfl, ⟨.inl rfl, ⟨.inl rfl, ⟨.inl rfl, ⟨.inl rfl, ⟨.inl rfl, trivial⟩⟩⟩⟩⟩⟩⟩⟩⟩
      · refine ax_Wp.go (f' := (26, [some (.ref 0), some (.int s1.1), some (.int s1.2.1), some (.int s1.2.2.1), some (.int x3), none, none, none, none], [.int s1.2.2.1, .ref 0, .int s1.2.2.1, .ref 0])) 4 rfl ?_
        refine cT.sp hD (fun x7 hx hD => ?_) (fun j8 hx hD => ?_)
        · refine ax_Wp.callE (f' := (29, [some (.ref 0), some (.int s1.1), some (.int s1.2.1), some (.int s1.2.2.1), some (.int x3), none, none, none, none], [.int s1.2.2.1, .ref 0])) rfl rfl (w_94 (d := d + 1) hx) rfl ?_
          refine bnd hD (fun x10 hx hD => ?_)
          refine ax_Wp.callE (f' := (32, [some (.ref 0), some (.int s1.1), some (.int s1.2.1), some (.int s1.2.2.1), some (.int x3), none, none, none, none], [])) rfl rfl (w_305 (d := d + 0) hx) rfl ?_
          refine ax_Wp.brD hD rfl (fun _ hD => ?_) (fun _ hD => ?_)
          · refine ax_Wp.go (f' := (68, [some (.ref 0), some (.int s1.1), some (.int s1.2.1), some (.int s1.2.2.1), some (.int x3), none, none, none, none], [.int (nI 0)])) 1 rfl ?_
            obtain rfl := inj hD
            exact ax_Wp.dead kkv6 ⟨.inl rfl, ⟨.inr ⟨rfl, trivial⟩, ⟨.inl rfl, ⟨.inl rfl, ⟨.inl rfl, ⟨.inl rfl, ⟨.inl rfl, ⟨.inl rfl, ⟨.inl rfl, trivial⟩⟩⟩⟩⟩⟩⟩⟩⟩
          · refine ax_Wp.go (f' := (37, [some (.ref 0), some (.int s1.1), some (.int s1.2.1), some (.int s1.2.2.1), some (.int x3), none, none, none, none], [.int x3])) 1 rfl ?_
            refine ax_Wp.brD hD rfl (fun _ hD => ?_) (fun _ hD => ?_)
            · refine ax_Wp.go (f' := (42, [some (.ref 0), some (.int s1.1), some (.int s1.2.1), some (.int s1.2.2.1), some (.int x3), none, none, none, none], [.int s1.2.2.1, .ref 0])) 2 rfl ?_
              refine cG.sp hD (fun x11 m14 hx hD => ?_) (fun j12 m13 hx hD => ?_)
              · refine ax_Wp.callE (f' := (45, [some (.ref 0), some (.int s1.1), some (.int s1.2.1), some (.int s1.2.2.1), some (.int x3), none, none, none, none], [])) rfl rfl (w_119 (d := d + 1) hx) rfl ?_
                refine ax_Wp.go (f' := (46, [some (.ref 0), some (.int s1.1), some (.int s1.2.1), some (.int s1.2.2.1), some (.int x3), none, none, none, none], [.int (nI 1), .int x11])) 1 rfl ?_
                refine ax_Wp.brD hD rfl (fun _ hD => ?_) (fun _ hD => ?_)
                · refine ax_Wp.go (f' := (51, [some (.ref 0), some (.int s1.1), some (.int s1.2.1), some (.int s1.2.2.1), some (.int x3), none, none, none, none], [.int x3])) 1 rfl ?_
                  refine ax_Wp.brD hD rfl (fun _ hD => ?_) (fun _ hD => ?_)
                  · refine ax_Wp.go (f' := (68, [some (.ref 0), some (.int s1.1), some (.int s1.2.1), some (.int s1.2.2.1), some (.int x3), none, none, none, none], [.int (nI 1)])) 2 rfl ?_
                    obtain rfl := inj hD
                    exact ax_Wp.dead kkv6 ⟨.inl rfl, ⟨.inr ⟨rfl, trivial⟩, ⟨.inl rfl, ⟨.inl rfl, ⟨.inl rfl, ⟨.inl rfl, ⟨.inl rfl, ⟨.inl rfl, ⟨.inl rfl, trivial⟩⟩⟩⟩⟩⟩⟩⟩⟩
                  · refine ax_Wp.go (f' := (56, [some (.ref 0), some (.int s1.1), some (.int s1.2.1), some (.int s1.2.2.1), some (.int x3), none, none, none, none], [.int s1.2.2.1, .ref 0])) 2 rfl ?_
                    refine cG.sp hD (fun x15 m18 hx hD => ?_) (fun j16 m17 hx hD => ?_)
                    · refine ax_Wp.callE (f' := (59, [some (.ref 0), some (.int s1.1), some (.int s1.2.1), some (.int s1.2.2.1), some (.int x3), none, none, none, none], [])) rfl rfl (w_119 (d := d + 1) hx) rfl ?_
                      refine ax_Wp.go (f' := (60, [some (.ref 0), some (.int s1.1), some (.int s1.2.1), some (.int s1.2.2.1), some (.int x3), none, none, none, none], [.int (nI 1), .int x15])) 1 rfl ?_
                      refine ax_Wp.brD hD rfl (fun _ hD => ?_) (fun _ hD => ?_)
                      · refine ax_Wp.go (f' := (68, [some (.ref 0), some (.int s1.1), some (.int s1.2.1), some (.int s1.2.2.1), some (.int x3), none, none, none, none], [.int (nI 0)])) 1 rfl ?_
                        obtain rfl := inj hD
                        exact ax_Wp.dead kkv6 ⟨.inl rfl, ⟨.inr ⟨rfl, trivial⟩, ⟨.inl rfl, ⟨.inl rfl, ⟨.inl rfl, ⟨.inl rfl, ⟨.inl rfl, ⟨.inl rfl, ⟨.inl rfl, trivial⟩⟩⟩⟩⟩⟩⟩⟩⟩
                      · refine ax_Wp.go (f' := (68, [some (.ref 0), some (.int s1.1), some (.int s1.2.1), some (.int s1.2.2.1), some (.int x3), none, none, none, none], [.int (nI 1)])) 2 rfl ?_
                        obtain rfl := inj hD
                        exact ax_Wp.dead kkv6 ⟨.inl rfl, ⟨.inr ⟨rfl, trivial⟩, ⟨.inl rfl, ⟨.inl rfl, ⟨.inl rfl, ⟨.inl rfl, ⟨.inl rfl, ⟨.inl rfl, ⟨.inl rfl, trivial⟩⟩⟩⟩⟩⟩⟩⟩⟩
                    · cases hD
                · refine ax_Wp.go (f' := (68, [some (.ref 0), some (.int s1.1), some (.int s1.2.1), some (.int s1.2.2.1), some (.int x3), none, none, none, none], [.int (nI 0)])) 1 rfl ?_
                  obtain rfl := inj hD
                  exact ax_Wp.dead kkv6 ⟨.inl rfl, ⟨.inr ⟨rfl, trivial⟩, ⟨.inl rfl, ⟨.inl rfl, ⟨.inl rfl, ⟨.inl rfl, ⟨.inl rfl, ⟨.inl rfl, ⟨.inl rfl, trivial⟩⟩⟩⟩⟩⟩⟩⟩⟩
              · cases hD
            · refine ax_Wp.go (f' := (51, [some (.ref 0), some (.int s1.1), some (.int s1.2.1), some (.int s1.2.2.1), some (.int x3), none, none, none, none], [.int x3])) 1 rfl ?_
              refine ax_Wp.brD hD rfl (fun _ hD => ?_) (fun _ hD => ?_)
              · refine ax_Wp.go (f' := (68, [some (.ref 0), some (.int s1.1), some (.int s1.2.1), some (.int s1.2.2.1), some (.int x3), none, none, none, none], [.int (nI 1)])) 2 rfl ?_
                obtain rfl := inj hD
                exact ax_Wp.dead kkv6 ⟨.inl rfl, ⟨.inr ⟨rfl, trivial⟩, ⟨.inl rfl, ⟨.inl rfl, ⟨.inl rfl, ⟨.inl rfl, ⟨.inl rfl, ⟨.inl rfl, ⟨.inl rfl, trivial⟩⟩⟩⟩⟩⟩⟩⟩⟩
              · refine ax_Wp.go (f' := (56, [some (.ref 0), some (.int s1.1), some (.int s1.2.1), some (.int s1.2.2.1), some (.int x3), none, none, none, none], [.int s1.2.2.1, .ref 0])) 2 rfl ?_
                refine cG.sp hD (fun x19 m22 hx hD => ?_) (fun j20 m21 hx hD => ?_)
                · refine ax_Wp.callE (f' := (59, [some (.ref 0), some (.int s1.1), some (.int s1.2.1), some (.int s1.2.2.1), some (.int x3), none, none, none, none], [])) rfl rfl (w_119 (d := d + 1) hx) rfl ?_
                  refine ax_Wp.go (f' := (60, [some (.ref 0), some (.int s1.1), some (.int s1.2.1), some (.int s1.2.2.1), some (.int x3), none, none, none, none], [.int (nI 1), .int x19])) 1 rfl ?_
                  refine ax_Wp.brD hD rfl (fun _ hD => ?_) (fun _ hD => ?_)
                  · refine ax_Wp.go (f' := (68, [some (.ref 0), some (.int s1.1), some (.int s1.2.1), some (.int s1.2.2.1), some (.int x3), none, none, none, none], [.int (nI 0)])) 1 rfl ?_
                    obtain rfl := inj hD
                    exact ax_Wp.dead kkv6 ⟨.inl rfl, ⟨.inr ⟨rfl, trivial⟩, ⟨.inl rfl, ⟨.inl rfl, ⟨.inl rfl, ⟨.inl rfl, ⟨.inl rfl, ⟨.inl rfl, ⟨.inl rfl, trivial⟩⟩⟩⟩⟩⟩⟩⟩⟩
                  · refine ax_Wp.go (f' := (68, [some (.ref 0), some (.int s1.1), some (.int s1.2.1), some (.int s1.2.2.1), some (.int x3), none, none, none, none], [.int (nI 1)])) 2 rfl ?_
                    obtain rfl := inj hD
                    exact ax_Wp.dead kkv6 ⟨.inl rfl, ⟨.inr ⟨rfl, trivial⟩, ⟨.inl rfl, ⟨.inl rfl, ⟨.inl rfl, ⟨.inl rfl, ⟨.inl rfl, ⟨.inl rfl, ⟨.inl rfl, trivial⟩⟩⟩⟩⟩⟩⟩⟩⟩
                · cases hD
        · cases hD
    · cases hD
def CL (X : Nat × (Nat → Int32)) (m : dM) : Option (Int32 × dM) := lp (β := Int32 × dM) 3000 (fun (s1 : Int32 × dM) => if (nI 56) ≤ s1.1 then some (.inr (nI 1, s1.2)) else (D300 X s1.2 s1.1).bind fun (x2 : Int32) => (D302 s1.2 x2).bind fun (r3 : Int32 × dM) => if r3.1 < (nI 0) then some (.inr (nI 0, r3.2)) else if (s1.1 - s1.1 / (nI 2) * (nI 2)) = (nI 0) then (D306 r3.2).bind fun (r4 : Int32 × dM) => if r4.1 = (nI 0) then some (.inr (nI 0, r4.2)) else (D307 r4.2).bind fun (x5 : Int32) => if x5 = (nI 0) then some (.inr (nI 0, r4.2)) else (D308 r4.2).bind fun (r6 : Int32 × dM) => if r6.1 = (nI 0) then some (.inr (nI 0, r6.2)) else some (.inl (s1.1 + (nI 1), r6.2)) else (D307 r3.2).bind fun (x7 : Int32) => if x7 = (nI 0) then some (.inr (nI 0, r3.2)) else (D308 r3.2).bind fun (r8 : Int32 × dM) => if r8.1 = (nI 0) then some (.inr (nI 0, r8.2)) else some (.inl (s1.1 + (nI 1), r8.2))) (nI 0, m)
set_option maxRecDepth 20000 in
theorem c_L {X : Nat × (Nat → Int32)} {d : Nat} {m : dM} {r : Int32 × dM} (hD : CL X m = some r) : ax_Wp X (d + 11 + 1) 118 (13, [some (.retAddr 0), some (.ref 0), some (.ref 130), none, none], []) (stt m) (fun o h => o = .inl (some (.int r.1)) ∧ h = stt r.2) := by
  unfold CL at hD
  refine ax_Wp.go (f' := (15, [some (.retAddr 0), some (.ref 0), some (.ref 130), some (.int (nI 0)), none], [])) 2 rfl ?_
  refine ax_Wp.lpD (fun (s1 : Int32 × dM) => ((15, [some (.retAddr 0), some (.ref 0), some (.ref 130), some (.int s1.1), none], []), stt s1.2)) ?_ hD
  clear hD
  intro s1 v hD ks1
  refine ax_Wp.go (f' := (18, [some (.retAddr 0), some (.ref 0), some (.ref 130), some (.int s1.1), none], [.int (nI 56), .int s1.1])) 2 rfl ?_
  refine ax_Wp.brD hD rfl (fun _ hD => ?_) (fun _ hD => ?_)
  · refine ax_Wp.go (f' := (74, [some (.retAddr 0), some (.ref 0), some (.ref 130), some (.int s1.1), none], [.int (nI 1)])) 1 rfl ?_
    obtain rfl := inj hD
    obtain rfl := ks1.o
    exact ax_Wp.ret rfl ⟨rfl, rfl⟩
  · refine ax_Wp.go (f' := (23, [some (.retAddr 0), some (.ref 0), some (.ref 130), some (.int s1.1), none], [.int s1.1, .retAddr 0])) 2 rfl ?_
    refine bnd hD (fun x2 hx hD => ?_)
    refine ax_Wp.callE (f' := (26, [some (.retAddr 0), some (.ref 0), some (.ref 130), some (.int s1.1), none], [])) rfl rfl (w_300 (d := d + 10) hx) rfl ?_
    refine ax_Wp.go (f' := (31, [some (.retAddr 0), some (.ref 0), some (.ref 130), some (.int s1.1), some (.int x2)], [.int x2, .ref 0])) 3 rfl ?_
    refine bnd hD (fun r3 hx hD => ?_)
    refine ax_Wp.callE (f' := (34, [some (.retAddr 0), some (.ref 0), some (.ref 130), some (.int s1.1), some (.int x2)], [])) rfl rfl (w_302 (d := d + 2) hx) rfl ?_
    refine ax_Wp.brD hD rfl (fun _ hD => ?_) (fun _ hD => ?_)
    · refine ax_Wp.go (f' := (66, [some (.retAddr 0), some (.ref 0), some (.ref 130), some (.int s1.1), some (.int x2)], [.int (nI 0)])) 1 rfl ?_
      obtain rfl := inj hD
      obtain rfl := ks1.o
      exact ax_Wp.ret rfl ⟨rfl, rfl⟩
    · refine ax_Wp.go (f' := (40, [some (.retAddr 0), some (.ref 0), some (.ref 130), some (.int s1.1), some (.int x2)], [.int (s1.1 - s1.1 / (nI 2) * (nI 2))])) 3 rfl ?_
      refine ax_Wp.brD hD rfl (fun _ hD => ?_) (fun _ hD => ?_)
      · refine ax_Wp.go (f' := (44, [some (.retAddr 0), some (.ref 0), some (.ref 130), some (.int s1.1), some (.int x2)], [.ref 0])) 1 rfl ?_
        refine bnd hD (fun r4 hx hD => ?_)
        refine ax_Wp.callE (f' := (47, [some (.retAddr 0), some (.ref 0), some (.ref 130), some (.int s1.1), some (.int x2)], [])) rfl rfl (w_306 (d := d + 2) hx) rfl ?_
        refine ax_Wp.brD hD rfl (fun _ hD => ?_) (fun _ hD => ?_)
        · refine ax_Wp.go (f' := (66, [some (.retAddr 0), some (.ref 0), some (.ref 130), some (.int s1.1), some (.int x2)], [.int (nI 0)])) 1 rfl ?_
          obtain rfl := inj hD
          obtain rfl := ks1.o
          exact ax_Wp.ret rfl ⟨rfl, rfl⟩
        · refine ax_Wp.go (f' := (51, [some (.retAddr 0), some (.ref 0), some (.ref 130), some (.int s1.1), some (.int x2)], [.ref 0])) 1 rfl ?_
          refine bnd hD (fun x5 hx hD => ?_)
          refine ax_Wp.callE (f' := (54, [some (.retAddr 0), some (.ref 0), some (.ref 130), some (.int s1.1), some (.int x2)], [])) rfl rfl (w_307 (d := d + 3) hx) rfl ?_
          refine ax_Wp.brD hD rfl (fun _ hD => ?_) (fun _ hD => ?_)
          · refine ax_Wp.go (f' := (66, [some (.retAddr 0), some (.ref 0), some (.ref 130), some (.int s1.1), some (.int x2)], [.int (nI 0)])) 1 rfl ?_
            obtain rfl := inj hD
            obtain rfl := ks1.o
            exact ax_Wp.ret rfl ⟨rfl, rfl⟩
          · refine ax_Wp.go (f' := (59, [some (.retAddr 0), some (.ref 0), some (.ref 130), some (.int s1.1), some (.int x2)], [.ref 130, .ref 0])) 2 rfl ?_
            refine bnd hD (fun r6 hx hD => ?_)
            refine ax_Wp.callE (f' := (62, [some (.retAddr 0), some (.ref 0), some (.ref 130), some (.int s1.1), some (.int x2)], [])) rfl rfl (w_308 (d := d + 3) hx) rfl ?_
            refine ax_Wp.brD hD rfl (fun _ hD => ?_) (fun _ hD => ?_)
            · refine ax_Wp.go (f' := (66, [some (.retAddr 0), some (.ref 0), some (.ref 130), some (.int s1.1), some (.int x2)], [.int (nI 0)])) 1 rfl ?_
              obtain rfl := inj hD
              obtain rfl := ks1.o
              exact ax_Wp.ret rfl ⟨rfl, rfl⟩
            · refine ax_Wp.go (f' := (15, [some (.retAddr 0), some (.ref 0), some (.ref 130), some (.int (s1.1 + (nI 1))), some (.int x2)], [])) 2 rfl ?_
              obtain rfl := inj hD
              exact ax_Wp.dead ks1.i ⟨.inl rfl, ⟨.inl rfl, ⟨.inl rfl, ⟨.inl rfl, ⟨.inr ⟨rfl, trivial⟩, trivial⟩⟩⟩⟩⟩
      · refine ax_Wp.go (f' := (51, [some (.retAddr 0), some (.ref 0), some (.ref 130), some (.int s1.1), some (.int x2)], [.ref 0])) 1 rfl ?_
        refine bnd hD (fun x7 hx hD => ?_)
        refine ax_Wp.callE (f' := (54, [some (.retAddr 0), some (.ref 0), some (.ref 130), some (.int s1.1), some (.int x2)], [])) rfl rfl (w_307 (d := d + 3) hx) rfl ?_
        refine ax_Wp.brD hD rfl (fun _ hD => ?_) (fun _ hD => ?_)
        · refine ax_Wp.go (f' := (66, [some (.retAddr 0), some (.ref 0), some (.ref 130), some (.int s1.1), some (.int x2)], [.int (nI 0)])) 1 rfl ?_
          obtain rfl := inj hD
          obtain rfl := ks1.o
          exact ax_Wp.ret rfl ⟨rfl, rfl⟩
        · refine ax_Wp.go (f' := (59, [some (.retAddr 0), some (.ref 0), some (.ref 130), some (.int s1.1), some (.int x2)], [.ref 130, .ref 0])) 2 rfl ?_
          refine bnd hD (fun r8 hx hD => ?_)
          refine ax_Wp.callE (f' := (62, [some (.retAddr 0), some (.ref 0), some (.ref 130), some (.int s1.1), some (.int x2)], [])) rfl rfl (w_308 (d := d + 3) hx) rfl ?_
          refine ax_Wp.brD hD rfl (fun _ hD => ?_) (fun _ hD => ?_)
          · refine ax_Wp.go (f' := (66, [some (.retAddr 0), some (.ref 0), some (.ref 130), some (.int s1.1), some (.int x2)], [.int (nI 0)])) 1 rfl ?_
            obtain rfl := inj hD
            obtain rfl := ks1.o
            exact ax_Wp.ret rfl ⟨rfl, rfl⟩
          · refine ax_Wp.go (f' := (15, [some (.retAddr 0), some (.ref 0), some (.ref 130), some (.int (s1.1 + (nI 1))), some (.int x2)], [])) 2 rfl ?_
            obtain rfl := inj hD
            exact ax_Wp.dead ks1.i ⟨.inl rfl, ⟨.inl rfl, ⟨.inl rfl, ⟨.inl rfl, ⟨.inr ⟨rfl, trivial⟩, trivial⟩⟩⟩⟩⟩
