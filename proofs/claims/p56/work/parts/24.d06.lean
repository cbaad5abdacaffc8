/-! WHAT METHODS DO, printed of their bytecode -/
def D53 (m : dM) (p0 : Int32) (p1 : Int32) : Option (Int32) := (D128 p0).bind fun (x1 : Int32) => if x1 = (nI 0) then some (-1) else (gI m 6 4 p0).bind fun (x2 : Int32) => (D3 m p0).bind fun (x3 : Int32) => (D68 m x2 p1 x3).bind fun (x4 : Int32) => some x4
set_option maxRecDepth 20000 in
theorem w_53 {X : Nat × (Nat → Int32)} {d : Nat} {m : dM} {p0 : Int32} {p1 : Int32} {r : Int32} (hD : D53 m p0 p1 = some r) : ax_Ev X (d + 4) 43 [.ref 1, .int p0, .int p1] (stt m) (.inl (some (.int r))) (stt m) := by
  unfold D53 at hD
  show ax_Wp X (d + 3 + 1) 43 (0, [some (.ref 1), some (.int p0), some (.int p1)], []) (stt m) _
  refine ax_Wp.go (f' := (1, [some (.ref 1), some (.int p0), some (.int p1)], [.int p0])) 1 rfl ?_
  refine bnd hD (fun x1 hx hD => ?_)
  refine ax_Wp.callE (f' := (4, [some (.ref 1), some (.int p0), some (.int p1)], [])) rfl rfl (w_128 (d := d + 2) hx) rfl ?_
  refine ax_Wp.brD hD rfl (fun _ hD => ?_) (fun _ hD => ?_)
  · refine ax_Wp.go (f' := (8, [some (.ref 1), some (.int p0), some (.int p1)], [.int (-1)])) 1 rfl ?_
    obtain rfl := inj hD
    exact ax_Wp.ret rfl ⟨rfl, rfl⟩
  · refine ax_Wp.go (f' := (21, [some (.ref 1), some (.int p0), some (.int p1)], [.int p0, .ref 6, .ref 2])) 6 rfl ?_
    refine ax_Wp.rdI hD rfl rfl rfl (fun x2 hD => ?_)
    refine ax_Wp.go (f' := (28, [some (.ref 1), some (.int p0), some (.int p1)], [.int p0, .ref 5, .int p1, .int x2, .ref 2])) 4 rfl ?_
    refine bnd hD (fun x3 hx hD => ?_)
    refine ax_Wp.callE (f' := (31, [some (.ref 1), some (.int p0), some (.int p1)], [.int p1, .int x2, .ref 2])) rfl rfl (w_3 (d := d + 2) hx) rfl ?_
    refine bnd hD (fun x4 hx hD => ?_)
    refine ax_Wp.callE (f' := (34, [some (.ref 1), some (.int p0), some (.int p1)], [])) rfl rfl (w_68 (d := d + 0) hx) rfl ?_
    obtain rfl := inj hD
    exact ax_Wp.ret rfl ⟨rfl, rfl⟩
def D115 (m : dM) (p0 : Int32) (p1 : Int32) : Option (Int32 ⊕ Nat) := cT (D124 p0) m (fun (x1 : Unit) => cT (D123 p1) m (fun (x4 : Unit) => (D53 m p0 p1).bind fun (x7 : Int32) => some (.inl x7)) (fun (j5 : Nat) (m6 : dM) => some (.inr j5))) (fun (j2 : Nat) (m3 : dM) => some (.inr j2))
set_option maxRecDepth 20000 in
theorem w_115 {X : Nat × (Nat → Int32)} {d : Nat} {m : dM} {p0 : Int32} {p1 : Int32} {r : Int32 ⊕ Nat} (hD : D115 m p0 p1 = some r) : ax_Ev X (d + 7) 94 [.ref 0, .int p0, .int p1] (stt m) (oT (fun x => some (.int x)) r) (stt (bT m r)) := by
  unfold D115 at hD
  show ax_Wp X (d + 6 + 1) 94 (0, [some (.ref 0), some (.int p0), some (.int p1)], []) (stt m) _
  refine ax_Wp.go (f' := (1, [some (.ref 0), some (.int p0), some (.int p1)], [.int p0])) 1 rfl ?_
  refine cT.sp hD (fun x1 hx hD => ?_) (fun j2 hx hD => ?_)
  · refine ax_Wp.callE (f' := (4, [some (.ref 0), some (.int p0), some (.int p1)], [])) rfl rfl (w_124 (d := d + 0) hx) rfl ?_
    refine ax_Wp.go (f' := (5, [some (.ref 0), some (.int p0), some (.int p1)], [.int p1])) 1 rfl ?_
    refine cT.sp hD (fun x4 hx hD => ?_) (fun j5 hx hD => ?_)
    · refine ax_Wp.callE (f' := (8, [some (.ref 0), some (.int p0), some (.int p1)], [])) rfl rfl (w_123 (d := d + 0) hx) rfl ?_
      refine ax_Wp.go (f' := (14, [some (.ref 0), some (.int p0), some (.int p1)], [.int p1, .int p0, .ref 1])) 4 rfl ?_
      refine bnd hD (fun x7 hx hD => ?_)
      refine ax_Wp.callE (f' := (17, [some (.ref 0), some (.int p0), some (.int p1)], [])) rfl rfl (w_53 (d := d + 2) hx) rfl ?_
      obtain rfl := inj hD
      exact ax_Wp.ret rfl ⟨rfl, rfl⟩
    · obtain rfl := inj hD
      exact ax_Wp.callX (f' := (8, [some (.ref 0), some (.int p0), some (.int p1)], [])) rfl rfl (w_123 (d := d + 0) hx) rfl ⟨rfl, rfl⟩
  · obtain rfl := inj hD
    exact ax_Wp.callX (f' := (4, [some (.ref 0), some (.int p0), some (.int p1)], [])) rfl rfl (w_124 (d := d + 0) hx) rfl ⟨rfl, rfl⟩
def D54 (m : dM) (p0 : Int32) (p1 : Int32) (p2 : Int32) : Option (Int32) := (D128 p0).bind fun (x1 : Int32) => if x1 = (nI 0) then some (-1) else (D3 m p0).bind fun (x2 : Int32) => lp (β := Int32) 3000 (fun (s3 : Int32) => if (rI m 2 4) ≤ s3 then some (.inr (-1)) else (gI m 3 24 s3).bind fun (x4 : Int32) => (gI m 6 4 p0).bind fun (x5 : Int32) => if x4 = x5 then (D64 m s3 x2).bind fun (x6 : Int32) => if x6 = (nI 0) then some (.inl (s3 + (nI 1))) else (gI m 4 24 s3).bind fun (x7 : Int32) => (D68 m x7 p1 x2).bind fun (x8 : Int32) => if x8 = (p2 - (nI 1)) then some (.inr s3) else some (.inl (s3 + (nI 1))) else some (.inl (s3 + (nI 1)))) (nI 0)
set_option maxRecDepth 20000 in
theorem w_54 {X : Nat × (Nat → Int32)} {d : Nat} {m : dM} {p0 : Int32} {p1 : Int32} {p2 : Int32} {r : Int32} (hD : D54 m p0 p1 p2 = some r) : ax_Ev X (d + 4) 44 [.ref 1, .int p0, .int p1, .int p2] (stt m) (.inl (some (.int r))) (stt m) := by
  unfold D54 at hD
  show ax_Wp X (d + 3 + 1) 44 (0, [some (.ref 1), some (.int p0), some (.int p1), some (.int p2), none, none], []) (stt m) _
  refine ax_Wp.go (f' := (1, [some (.ref 1), some (.int p0), some (.int p1), some (.int p2), none, none], [.int p0])) 1 rfl ?_
  refine bnd hD (fun x1 hx hD => ?_)
  refine ax_Wp.callE (f' := (4, [some (.ref 1), some (.int p0), some (.int p1), some (.int p2), none, none], [])) rfl rfl (w_128 (d := d + 2) hx) rfl ?_
  refine ax_Wp.brD hD rfl (fun _ hD => ?_) (fun _ hD => ?_)
  · refine ax_Wp.go (f' := (8, [some (.ref 1), some (.int p0), some (.int p1), some (.int p2), none, none], [.int (-1)])) 1 rfl ?_
    obtain rfl := inj hD
    exact ax_Wp.ret rfl ⟨rfl, rfl⟩
  · refine ax_Wp.go (f' := (14, [some (.ref 1), some (.int p0), some (.int p1), some (.int p2), none, none], [.int p0, .ref 5])) 3 rfl ?_
    refine bnd hD (fun x2 hx hD => ?_)
    refine ax_Wp.callE (f' := (17, [some (.ref 1), some (.int p0), some (.int p1), some (.int p2), none, none], [])) rfl rfl (w_3 (d := d + 2) hx) rfl ?_
    refine ax_Wp.go (f' := (22, [some (.ref 1), some (.int p0), some (.int p1), some (.int p2), some (.int x2), some (.int (nI 0))], [])) 3 rfl ?_
    refine ax_Wp.lpD (fun (s3 : Int32) => ((22, [some (.ref 1), some (.int p0), some (.int p1), some (.int p2), some (.int x2), some (.int s3)], []), stt m)) ?_ hD
    clear hD
    intro s3 v hD ks3
    refine ax_Wp.go (f' := (31, [some (.ref 1), some (.int p0), some (.int p1), some (.int p2), some (.int x2), some (.int s3)], [.int (rI m 2 4), .int s3])) 4 rfl ?_
    refine ax_Wp.brD hD rfl (fun _ hD => ?_) (fun _ hD => ?_)
    · refine ax_Wp.go (f' := (106, [some (.ref 1), some (.int p0), some (.int p1), some (.int p2), some (.int x2), some (.int s3)], [.int (-1)])) 1 rfl ?_
      obtain rfl := inj hD
      obtain rfl := ks3.o
      exact ax_Wp.ret rfl ⟨rfl, rfl⟩
    · refine ax_Wp.go (f' := (43, [some (.ref 1), some (.int p0), some (.int p1), some (.int p2), some (.int x2), some (.int s3)], [.int s3, .ref 3])) 4 rfl ?_
      refine ax_Wp.rdI hD rfl rfl rfl (fun x4 hD => ?_)
      refine ax_Wp.go (f' := (52, [some (.ref 1), some (.int p0), some (.int p1), some (.int p2), some (.int x2), some (.int s3)], [.int p0, .ref 6, .int x4])) 4 rfl ?_
      refine ax_Wp.rdI hD rfl rfl rfl (fun x5 hD => ?_)
      refine ax_Wp.brD hD rfl (fun _ hD => ?_) (fun _ hD => ?_)
      · refine ax_Wp.go (f' := (64, [some (.ref 1), some (.int p0), some (.int p1), some (.int p2), some (.int x2), some (.int s3)], [.int x2, .int s3, .ref 2])) 4 rfl ?_
        refine bnd hD (fun x6 hx hD => ?_)
        refine ax_Wp.callE (f' := (67, [some (.ref 1), some (.int p0), some (.int p1), some (.int p2), some (.int x2), some (.int s3)], [])) rfl rfl (w_64 (d := d + 1) hx) rfl ?_
        refine ax_Wp.brD hD rfl (fun _ hD => ?_) (fun _ hD => ?_)
        · refine ax_Wp.go (f' := (22, [some (.ref 1), some (.int p0), some (.int p1), some (.int p2), some (.int x2), some (.int (s3 + (nI 1)))], [])) 2 rfl ?_
          obtain rfl := inj hD
          exact ks3.i
        · refine ax_Wp.go (f' := (83, [some (.ref 1), some (.int p0), some (.int p1), some (.int p2), some (.int x2), some (.int s3)], [.int s3, .ref 4, .ref 2])) 6 rfl ?_
          refine ax_Wp.rdI hD rfl rfl rfl (fun x7 hD => ?_)
          refine ax_Wp.go (f' := (87, [some (.ref 1), some (.int p0), some (.int p1), some (.int p2), some (.int x2), some (.int s3)], [.int x2, .int p1, .int x7, .ref 2])) 2 rfl ?_
          refine bnd hD (fun x8 hx hD => ?_)
          refine ax_Wp.callE (f' := (90, [some (.ref 1), some (.int p0), some (.int p1), some (.int p2), some (.int x2), some (.int s3)], [])) rfl rfl (w_68 (d := d + 0) hx) rfl ?_
          refine ax_Wp.go (f' := (93, [some (.ref 1), some (.int p0), some (.int p1), some (.int p2), some (.int x2), some (.int s3)], [.int (p2 - (nI 1)), .int x8])) 3 rfl ?_
          refine ax_Wp.brD hD rfl (fun _ hD => ?_) (fun _ hD => ?_)
          · refine ax_Wp.go (f' := (98, [some (.ref 1), some (.int p0), some (.int p1), some (.int p2), some (.int x2), some (.int s3)], [.int s3])) 1 rfl ?_
            obtain rfl := inj hD
            obtain rfl := ks3.o
            exact ax_Wp.ret rfl ⟨rfl, rfl⟩
          · refine ax_Wp.go (f' := (22, [some (.ref 1), some (.int p0), some (.int p1), some (.int p2), some (.int x2), some (.int (s3 + (nI 1)))], [])) 2 rfl ?_
            obtain rfl := inj hD
            exact ks3.i
      · refine ax_Wp.go (f' := (22, [some (.ref 1), some (.int p0), some (.int p1), some (.int p2), some (.int x2), some (.int (s3 + (nI 1)))], [])) 2 rfl ?_
        obtain rfl := inj hD
        exact ks3.i
def D116 (m : dM) (p0 : Int32) (p1 : Int32) : Option (Int32 ⊕ Nat) := cT (D124 p0) m (fun (x1 : Unit) => cT (D123 p1) m (fun (x4 : Unit) => (D53 m p0 p1).bind fun (x7 : Int32) => if (nI 0) < x7 then (D54 m p0 p1 x7).bind fun (x8 : Int32) => some (.inl x8) else some (.inr 2)) (fun (j5 : Nat) (m6 : dM) => some (.inr j5))) (fun (j2 : Nat) (m3 : dM) => some (.inr j2))
set_option maxRecDepth 20000 in
theorem w_116 {X : Nat × (Nat → Int32)} {d : Nat} {m : dM} {p0 : Int32} {p1 : Int32} {r : Int32 ⊕ Nat} (hD : D116 m p0 p1 = some r) : ax_Ev X (d + 7) 95 [.ref 0, .int p0, .int p1] (stt m) (oT (fun x => some (.int x)) r) (stt (bT m r)) := by
  unfold D116 at hD
  show ax_Wp X (d + 6 + 1) 95 (0, [some (.ref 0), some (.int p0), some (.int p1), none], []) (stt m) _
  refine ax_Wp.go (f' := (1, [some (.ref 0), some (.int p0), some (.int p1), none], [.int p0])) 1 rfl ?_
  refine cT.sp hD (fun x1 hx hD => ?_) (fun j2 hx hD => ?_)
  · refine ax_Wp.callE (f' := (4, [some (.ref 0), some (.int p0), some (.int p1), none], [])) rfl rfl (w_124 (d := d + 0) hx) rfl ?_
    refine ax_Wp.go (f' := (5, [some (.ref 0), some (.int p0), some (.int p1), none], [.int p1])) 1 rfl ?_
    refine cT.sp hD (fun x4 hx hD => ?_) (fun j5 hx hD => ?_)
    · refine ax_Wp.callE (f' := (8, [some (.ref 0), some (.int p0), some (.int p1), none], [])) rfl rfl (w_123 (d := d + 0) hx) rfl ?_
      refine ax_Wp.go (f' := (14, [some (.ref 0), some (.int p0), some (.int p1), none], [.int p1, .int p0, .ref 1])) 4 rfl ?_
      refine bnd hD (fun x7 hx hD => ?_)
      refine ax_Wp.callE (f' := (17, [some (.ref 0), some (.int p0), some (.int p1), none], [])) rfl rfl (w_53 (d := d + 2) hx) rfl ?_
      refine ax_Wp.go (f' := (19, [some (.ref 0), some (.int p0), some (.int p1), some (.int x7)], [.int x7])) 2 rfl ?_
      refine ax_Wp.brD hD rfl (fun _ hD => ?_) (fun _ hD => ?_)
      · refine ax_Wp.go (f' := (40, [some (.ref 0), some (.int p0), some (.int p1), some (.int x7)], [.int x7, .int p1, .int p0, .ref 1])) 5 rfl ?_
        refine bnd hD (fun x8 hx hD => ?_)
        refine ax_Wp.callE (f' := (43, [some (.ref 0), some (.int p0), some (.int p1), some (.int x7)], [])) rfl rfl (w_54 (d := d + 2) hx) rfl ?_
        obtain rfl := inj hD
        exact ax_Wp.ret rfl ⟨rfl, rfl⟩
      · obtain rfl := inj hD
        exact ax_Wp.thr rfl (ax_six _ rfl) ⟨rfl, rfl⟩
    · obtain rfl := inj hD
      exact ax_Wp.callX (f' := (8, [some (.ref 0), some (.int p0), some (.int p1), none], [])) rfl rfl (w_123 (d := d + 0) hx) rfl ⟨rfl, rfl⟩
  · obtain rfl := inj hD
    exact ax_Wp.callX (f' := (4, [some (.ref 0), some (.int p0), some (.int p1), none], [])) rfl rfl (w_124 (d := d + 0) hx) rfl ⟨rfl, rfl⟩
def D93 (m : dM) (p0 : Int32) : Option (Int32 ⊕ Nat) := cT (D126 m p0) m (fun (x1 : Unit) => (D62 m p0).bind fun (x4 : Int32) => (gB x4).bind fun (b5 : Int32) => some (.inl b5)) (fun (j2 : Nat) (m3 : dM) => some (.inr j2))
set_option maxRecDepth 20000 in
theorem w_93 {X : Nat × (Nat → Int32)} {d : Nat} {m : dM} {p0 : Int32} {r : Int32 ⊕ Nat} (hD : D93 m p0 = some r) : ax_Ev X (d + 7) 72 [.ref 0, .int p0] (stt m) (oT (fun x => some (.int x)) r) (stt (bT m r)) := by
  unfold D93 at hD
  show ax_Wp X (d + 6 + 1) 72 (0, [some (.ref 0), some (.int p0)], []) (stt m) _
  refine ax_Wp.go (f' := (2, [some (.ref 0), some (.int p0)], [.int p0, .ref 0])) 2 rfl ?_
  refine cT.sp hD (fun x1 hx hD => ?_) (fun j2 hx hD => ?_)
  · refine ax_Wp.callE (f' := (5, [some (.ref 0), some (.int p0)], [])) rfl rfl (w_126 (d := d + 0) hx) rfl ?_
    refine ax_Wp.go (f' := (13, [some (.ref 0), some (.int p0)], [.int p0, .ref 2])) 4 rfl ?_
    refine bnd hD (fun x4 hx hD => ?_)
    refine ax_Wp.callE (f' := (16, [some (.ref 0), some (.int p0)], [])) rfl rfl (w_62 (d := d + 5) hx) rfl ?_
    refine ax_Wp.retB hD rfl (fun b5 hD => ?_)
    obtain rfl := inj hD
    exact ⟨rfl, rfl⟩
  · obtain rfl := inj hD
    exact ax_Wp.callX (f' := (5, [some (.ref 0), some (.int p0)], [])) rfl rfl (w_126 (d := d + 0) hx) rfl ⟨rfl, rfl⟩
def D67 (m : dM) (p0 : Int32) (p1 : Int32) : Option (Int32 × dM) := Option.bind (lp (β := dM) 3000 (fun (s1 : Int32 × dM) => if (nI 10) ≤ s1.1 then some (.inr s1.2) else (D65 s1.2 ((nI 1) <<< (s1.1 &&& nI 31)) p1).bind fun (x3 : Int32) => (sI s1.2 44 10 s1.1 (((nI 1) <<< (s1.1 &&& nI 31)) ||| x3)).bind fun (m4 : dM) => some (.inl (s1.1 + (nI 1), m4))) (nI 0, m)) fun (v2 : dM) => Option.bind (lp (β := dM) 3000 (fun (s5 : Int32 × dM) => if (nI 10) ≤ s5.1 then some (.inr s5.2) else Option.bind (lp (β := dM) 3000 (fun (s7 : Int32 × dM) => if (nI 10) ≤ s7.1 then some (.inr s7.2) else (gI s7.2 44 10 s7.1).bind fun (x9 : Int32) => Option.bind ((if ((x9 >>> (s5.1 &&& nI 31)) &&& (nI 1)) = (nI 1) then (gI s7.2 44 10 s7.1).bind fun (x11 : Int32) => (gI s7.2 44 10 s5.1).bind fun (x12 : Int32) => (sI s7.2 44 10 s7.1 (x11 ||| x12)).bind fun (m13 : dM) => some m13 else some s7.2) : Option (dM)) fun (v10 : dM) => some (.inl (s7.1 + (nI 1), v10))) (nI 0, s5.2)) fun (v8 : dM) => some (.inl (s5.1 + (nI 1), v8))) (nI 0, v2)) fun (v6 : dM) => Option.bind ((if p0 < (nI 0) then some (nI 0) else if (nI 10) ≤ p0 then some (nI 0) else (gI v6 44 10 p0).bind fun (x15 : Int32) => some x15) : Option (Int32)) fun (v14 : Int32) => some (v14, v6)
set_option maxRecDepth 20000 in
theorem w_67 {X : Nat × (Nat → Int32)} {d : Nat} {m : dM} {p0 : Int32} {p1 : Int32} {r : Int32 × dM} (hD : D67 m p0 p1 = some r) : ax_Ev X (d + 3) 55 [.ref 2, .int p0, .int p1, .ref 44] (stt m) (.inl (some (.int r.1))) (stt r.2) := by
  unfold D67 at hD
  show ax_Wp X (d + 2 + 1) 55 (0, [some (.ref 2), some (.int p0), some (.int p1), some (.ref 44), none, none], []) (stt m) _
  refine ax_Wp.go (f' := (3, [some (.ref 2), some (.int p0), some (.int p1), some (.ref 44), some (.int (nI 0)), none], [])) 2 rfl ?_
  refine bnd hD (fun v2 hx hD => ?_)
  refine ax_Wp.jn (F := (34, [some (.ref 2), some (.int p0), none, some (.ref 44), none, none], [])) (hh := stt v2) ?_ (fun kkv2 => ?_)
  · refine ax_Wp.go (f' := (37, [some (.ref 2), some (.int p0), none, some (.ref 44), some (.int (nI 0)), none], [])) 2 rfl ?_
    refine bnd hD (fun v6 hx hD => ?_)
    refine ax_Wp.jn (F := (90, [some (.ref 2), some (.int p0), none, some (.ref 44), none, none], [])) (hh := stt v6) ?_ (fun kkv6 => ?_)
    · refine ax_Wp.go (f' := (91, [some (.ref 2), some (.int p0), none, some (.ref 44), none, none], [.int p0])) 1 rfl ?_
      refine bnd hD (fun v14 hx hD => ?_)
      refine ax_Wp.jn (F := (107, [some (.ref 2), none, none, some (.ref 44), none, none], [.int v14])) (hh := stt v6) ?_ (fun kkv14 => ?_)
      · obtain rfl := inj hD
        exact ax_Wp.ret rfl ⟨rfl, rfl⟩
      clear hD
      have hD := hx
      clear hx
      refine ax_Wp.brD hD rfl (fun _ hD => ?_) (fun _ hD => ?_)
      · refine ax_Wp.go (f' := (107, [some (.ref 2), some (.int p0), none, some (.ref 44), none, none], [.int (nI 0)])) 1 rfl ?_
        obtain rfl := inj hD
        exact ax_Wp.dead kkv14 ⟨.inl rfl, ⟨.inr ⟨rfl, trivial⟩, ⟨.inl rfl, ⟨.inl rfl, ⟨.inl rfl, ⟨.inl rfl, trivial⟩⟩⟩⟩⟩⟩
      · refine ax_Wp.go (f' := (97, [some (.ref 2), some (.int p0), none, some (.ref 44), none, none], [.int (nI 10), .int p0])) 3 rfl ?_
        refine ax_Wp.brD hD rfl (fun _ hD => ?_) (fun _ hD => ?_)
        · refine ax_Wp.go (f' := (107, [some (.ref 2), some (.int p0), none, some (.ref 44), none, none], [.int (nI 0)])) 1 rfl ?_
          obtain rfl := inj hD
          exact ax_Wp.dead kkv14 ⟨.inl rfl, ⟨.inr ⟨rfl, trivial⟩, ⟨.inl rfl, ⟨.inl rfl, ⟨.inl rfl, ⟨.inl rfl, trivial⟩⟩⟩⟩⟩⟩
        · refine ax_Wp.go (f' := (102, [some (.ref 2), some (.int p0), none, some (.ref 44), none, none], [.int p0, .ref 44])) 2 rfl ?_
          refine ax_Wp.rdI hD rfl rfl rfl (fun x15 hD => ?_)
          refine ax_Wp.go (f' := (107, [some (.ref 2), some (.int p0), none, some (.ref 44), none, none], [.int x15])) 1 rfl ?_
          obtain rfl := inj hD
          exact ax_Wp.dead kkv14 ⟨.inl rfl, ⟨.inr ⟨rfl, trivial⟩, ⟨.inl rfl, ⟨.inl rfl, ⟨.inl rfl, ⟨.inl rfl, trivial⟩⟩⟩⟩⟩⟩
    clear hD
    refine ax_Wp.lpD (fun (s5 : Int32 × dM) => ((37, [some (.ref 2), some (.int p0), none, some (.ref 44), some (.int s5.1), none], []), stt s5.2)) ?_ hx
    clear hx
    intro s5 v hD ks5
    refine ax_Wp.go (f' := (41, [some (.ref 2), some (.int p0), none, some (.ref 44), some (.int s5.1), none], [.int (nI 10), .int s5.1])) 3 rfl ?_
    refine ax_Wp.brD hD rfl (fun _ hD => ?_) (fun _ hD => ?_)
    · obtain rfl := inj hD
      obtain rfl := ks5.o
      exact ax_Wp.dead kkv6 ⟨.inl rfl, ⟨.inl rfl, ⟨.inl rfl, ⟨.inl rfl, ⟨.inr ⟨rfl, trivial⟩, ⟨.inl rfl, trivial⟩⟩⟩⟩⟩⟩
    · refine ax_Wp.go (f' := (47, [some (.ref 2), some (.int p0), none, some (.ref 44), some (.int s5.1), some (.int (nI 0))], [])) 2 rfl ?_
      refine bnd hD (fun v8 hx hD => ?_)
      refine ax_Wp.jn (F := (84, [some (.ref 2), some (.int p0), none, some (.ref 44), some (.int s5.1), none], [])) (hh := stt v8) ?_ (fun kkv8 => ?_)
      · refine ax_Wp.go (f' := (37, [some (.ref 2), some (.int p0), none, some (.ref 44), some (.int (s5.1 + (nI 1))), none], [])) 2 rfl ?_
        obtain rfl := inj hD
        exact ks5.i
      clear hD
      refine ax_Wp.lpD (fun (s7 : Int32 × dM) => ((47, [some (.ref 2), some (.int p0), none, some (.ref 44), some (.int s5.1), some (.int s7.1)], []), stt s7.2)) ?_ hx
      clear hx
      intro s7 v hD ks7
      refine ax_Wp.go (f' := (51, [some (.ref 2), some (.int p0), none, some (.ref 44), some (.int s5.1), some (.int s7.1)], [.int (nI 10), .int s7.1])) 3 rfl ?_
      refine ax_Wp.brD hD rfl (fun _ hD => ?_) (fun _ hD => ?_)
      · obtain rfl := inj hD
        obtain rfl := ks7.o
        exact ax_Wp.dead kkv8 ⟨.inl rfl, ⟨.inl rfl, ⟨.inl rfl, ⟨.inl rfl, ⟨.inl rfl, ⟨.inr ⟨rfl, trivial⟩, trivial⟩⟩⟩⟩⟩⟩
      · refine ax_Wp.go (f' := (57, [some (.ref 2), some (.int p0), none, some (.ref 44), some (.int s5.1), some (.int s7.1)], [.int s7.1, .ref 44])) 2 rfl ?_
        refine ax_Wp.rdI hD rfl rfl rfl (fun x9 hD => ?_)
        refine ax_Wp.go (f' := (64, [some (.ref 2), some (.int p0), none, some (.ref 44), some (.int s5.1), some (.int s7.1)], [.int (nI 1), .int ((x9 >>> (s5.1 &&& nI 31)) &&& (nI 1))])) 5 rfl ?_
        refine bnd hD (fun v10 hx hD => ?_)
        refine ax_Wp.jn (F := (78, [some (.ref 2), some (.int p0), none, some (.ref 44), some (.int s5.1), some (.int s7.1)], [])) (hh := stt v10) ?_ (fun kkv10 => ?_)
        · refine ax_Wp.go (f' := (47, [some (.ref 2), some (.int p0), none, some (.ref 44), some (.int s5.1), some (.int (s7.1 + (nI 1)))], [])) 2 rfl ?_
          obtain rfl := inj hD
          exact ks7.i
        clear hD
        have hD := hx
        clear hx
        refine ax_Wp.brD hD rfl (fun _ hD => ?_) (fun _ hD => ?_)
        · refine ax_Wp.go (f' := (71, [some (.ref 2), some (.int p0), none, some (.ref 44), some (.int s5.1), some (.int s7.1)], [.int s7.1, .ref 44, .int s7.1, .ref 44])) 3 rfl ?_
          refine ax_Wp.rdI hD rfl rfl rfl (fun x11 hD => ?_)
          refine ax_Wp.go (f' := (75, [some (.ref 2), some (.int p0), none, some (.ref 44), some (.int s5.1), some (.int s7.1)], [.int s5.1, .ref 44, .int x11, .int s7.1, .ref 44])) 2 rfl ?_
          refine ax_Wp.rdI hD rfl rfl rfl (fun x12 hD => ?_)
          refine ax_Wp.go (f' := (77, [some (.ref 2), some (.int p0), none, some (.ref 44), some (.int s5.1), some (.int s7.1)], [.int (x11 ||| x12), .int s7.1, .ref 44])) 1 rfl ?_
          refine ax_Wp.wrI hD rfl rfl (fun _ => rfl) (fun m13 hD => ?_)
          obtain rfl := inj hD
          exact kkv10
        · obtain rfl := inj hD
          exact kkv10
  clear hD
  refine ax_Wp.lpD (fun (s1 : Int32 × dM) => ((3, [some (.ref 2), some (.int p0), some (.int p1), some (.ref 44), some (.int s1.1), none], []), stt s1.2)) ?_ hx
  clear hx
  intro s1 v hD ks1
  refine ax_Wp.go (f' := (7, [some (.ref 2), some (.int p0), some (.int p1), some (.ref 44), some (.int s1.1), none], [.int (nI 10), .int s1.1])) 3 rfl ?_
  refine ax_Wp.brD hD rfl (fun _ hD => ?_) (fun _ hD => ?_)
  · obtain rfl := inj hD
    obtain rfl := ks1.o
    exact ax_Wp.dead kkv2 ⟨.inl rfl, ⟨.inl rfl, ⟨.inr ⟨rfl, trivial⟩, ⟨.inl rfl, ⟨.inr ⟨rfl, trivial⟩, ⟨.inl rfl, trivial⟩⟩⟩⟩⟩⟩
  · refine ax_Wp.go (f' := (23, [some (.ref 2), some (.int p0), some (.int p1), some (.ref 44), some (.int s1.1), none], [.int p1, .int ((nI 1) <<< (s1.1 &&& nI 31)), .ref 2, .int ((nI 1) <<< (s1.1 &&& nI 31)), .int s1.1, .ref 44])) 10 rfl ?_
    refine bnd hD (fun x3 hx hD => ?_)
    refine ax_Wp.callE (f' := (26, [some (.ref 2), some (.int p0), some (.int p1), some (.ref 44), some (.int s1.1), none], [.int ((nI 1) <<< (s1.1 &&& nI 31)), .int s1.1, .ref 44])) rfl rfl (w_65 (d := d + 0) hx) rfl ?_
    refine ax_Wp.go (f' := (27, [some (.ref 2), some (.int p0), some (.int p1), some (.ref 44), some (.int s1.1), none], [.int (((nI 1) <<< (s1.1 &&& nI 31)) ||| x3), .int s1.1, .ref 44])) 1 rfl ?_
    refine ax_Wp.wrI hD rfl rfl (fun _ => rfl) (fun m4 hD => ?_)
    refine ax_Wp.go (f' := (3, [some (.ref 2), some (.int p0), some (.int p1), some (.ref 44), some (.int (s1.1 + (nI 1))), none], [])) 2 rfl ?_
    obtain rfl := inj hD
    exact ks1.i
def D114 (m : dM) (p0 : Int32) : Option ((Int32 ⊕ Nat) × dM) := cT (D124 p0) m (fun (x1 : Unit) => (gI m 6 4 p0).bind fun (x4 : Int32) => (D3 m p0).bind fun (x5 : Int32) => (D67 m x4 x5).bind fun (r6 : Int32 × dM) => some (.inl r6.1, r6.2)) (fun (j2 : Nat) (m3 : dM) => some (.inr j2, m3))
set_option maxRecDepth 20000 in
theorem w_114 {X : Nat × (Nat → Int32)} {d : Nat} {m : dM} {p0 : Int32} {r : (Int32 ⊕ Nat) × dM} (hD : D114 m p0 = some r) : ax_Ev X (d + 7) 93 [.ref 0, .int p0] (stt m) (oT (fun x => some (.int x)) r.1) (stt r.2) := by
  unfold D114 at hD
  show ax_Wp X (d + 6 + 1) 93 (0, [some (.ref 0), some (.int p0)], []) (stt m) _
  refine ax_Wp.go (f' := (1, [some (.ref 0), some (.int p0)], [.int p0])) 1 rfl ?_
  refine cT.sp hD (fun x1 hx hD => ?_) (fun j2 hx hD => ?_)
  · refine ax_Wp.callE (f' := (4, [some (.ref 0), some (.int p0)], [])) rfl rfl (w_124 (d := d + 0) hx) rfl ?_
    refine ax_Wp.go (f' := (22, [some (.ref 0), some (.int p0)], [.int p0, .ref 6, .ref 2])) 8 rfl ?_
    refine ax_Wp.rdI hD rfl rfl rfl (fun x4 hD => ?_)
    refine ax_Wp.go (f' := (31, [some (.ref 0), some (.int p0)], [.int p0, .ref 5, .int x4, .ref 2])) 4 rfl ?_
    refine bnd hD (fun x5 hx hD => ?_)
    refine ax_Wp.callE (f' := (34, [some (.ref 0), some (.int p0)], [.int x4, .ref 2])) rfl rfl (w_3 (d := d + 5) hx) rfl ?_
    refine ax_Wp.go (f' := (38, [some (.ref 0), some (.int p0)], [.ref 44, .int x5, .int x4, .ref 2])) 2 rfl ?_
    refine bnd hD (fun r6 hx hD => ?_)
    refine ax_Wp.callE (f' := (41, [some (.ref 0), some (.int p0)], [])) rfl rfl (w_67 (d := d + 3) hx) rfl ?_
    obtain rfl := inj hD
    exact ax_Wp.ret rfl ⟨rfl, rfl⟩
  · obtain rfl := inj hD
    exact ax_Wp.callX (f' := (4, [some (.ref 0), some (.int p0)], [])) rfl rfl (w_124 (d := d + 0) hx) rfl ⟨rfl, rfl⟩
