/-! WHAT METHODS DO, printed of their bytecode: 8 -/
def D278 (m : dM) (p0 : Int32) (p1 : Int32) : Option (Int32 × dM) := cT (D115 m p0 p1) m (fun (x1 : Int32) => (sL m 138 1 (nI 0) x1.toInt64).bind fun (m4 : dM) => some (nI 0, m4)) (fun (j2 : Nat) (m3 : dM) => if j2 = 0 then some (nI 1, m3) else none)
set_option maxRecDepth 20000 in
theorem w_278 {X : Nat × (Nat → Int32)} {d : Nat} {m : dM} {p0 : Int32} {p1 : Int32} {r : Int32 × dM} (hD : D278 m p0 p1 = some r) : ax_Ev X (d + 8) 278 [.ref 0, .int p0, .int p1, .ref 138] (stt m) (.inl (some (.int r.1))) (stt r.2) := by
  unfold D278 at hD
  show ax_Wp X (d + 7 + 1) 278 (0, [some (.ref 0), some (.int p0), some (.int p1), some (.ref 138), none], []) (stt m) _
  refine ax_Wp.go (f' := (5, [some (.ref 0), some (.int p0), some (.int p1), some (.ref 138), none], [.int p1, .int p0, .ref 0, .int (nI 0), .ref 138])) 5 rfl ?_
  refine cT.sp hD (fun x1 hx hD => ?_) (fun j2 hx hD => ?_)
  · refine ax_Wp.callE (f' := (8, [some (.ref 0), some (.int p0), some (.int p1), some (.ref 138), none], [.int (nI 0), .ref 138])) rfl rfl (w_115 (d := d + 0) hx) rfl ?_
    refine ax_Wp.go (f' := (9, [some (.ref 0), some (.int p0), some (.int p1), some (.ref 138), none], [.long x1.toInt64, .int (nI 0), .ref 138])) 1 rfl ?_
    refine ax_Wp.wrL hD rfl rfl (fun _ => rfl) (fun m4 hD => ?_)
    refine ax_Wp.go (f' := (18, [some (.ref 0), some (.int p0), some (.int p1), some (.ref 138), none], [.int (nI 0)])) 2 rfl ?_
    obtain rfl := inj hD
    exact ax_Wp.ret rfl ⟨rfl, rfl⟩
  · refine swD hD (fun e hD => ?_) (fun _ hD => ?_)
    · cases e
      refine ax_Wp.callH (f' := (8, [some (.ref 0), some (.int p0), some (.int p1), some (.ref 138), none], [.int (nI 0), .ref 138])) (pc2 := 15) (i := 4) rfl rfl (w_115 (d := d + 0) hx) rfl rfl rfl ?_
      refine ax_Wp.go (f' := (16, [some (.ref 0), some (.int p0), some (.int p1), some (.ref 138), none], [.int (nI 1)])) 1 rfl ?_
      obtain rfl := inj hD
      exact ax_Wp.ret rfl ⟨rfl, rfl⟩
    cases hD
def D54 (m : dM) (p0 : Int32) (p1 : Int32) (p2 : Int32) : Option (Int32) := (D128 p0).bind fun (x1 : Int32) => if x1 = (nI 0) then some (-1) else (D3 m p0).bind fun (x2 : Int32) => lp (β := Int32) 3000 (fun (s3 : Int32) => if (rI m 2 4) ≤ s3 then some (.inr (-1)) else (gI m 3 24 s3).bind fun (x4 : Int32) => (gI m 6 4 p0).bind fun (x5 : Int32) => if x4 = x5 then (D64 m s3 x2).bind fun (x6 : Int32) => if x6 = (nI 0) then some (.inl (s3 + (nI 1))) else (gI m 4 24 s3).bind fun (x7 : Int32) => (D68 m x7 p1 x2).bind fun (x8 : Int32) => if x8 = (p2 - (nI 1)) then some (.inr s3) else some (.inl (s3 + (nI 1))) else some (.inl (s3 + (nI 1)))) (nI 0)
set_option maxRecDepth 20000 in
theorem w_54 {X : Nat × (Nat → Int32)} {d : Nat} {m : dM} {p0 : Int32} {p1 : Int32} {p2 : Int32} {r : Int32} (hD : D54 m p0 p1 p2 = some r) : ax_Ev X (d + 4) 54 [.ref 1, .int p0, .int p1, .int p2] (stt m) (.inl (some (.int r))) (stt m) := by
  unfold D54 at hD
  show ax_Wp X (d + 3 + 1) 54 (0, [some (.ref 1), some (.int p0), some (.int p1), some (.int p2), none, none], []) (stt m) _
  refine ax_Wp.go (f' := (1, [some (.ref 1), some (.int p0), some (.int p1), some (.int p2), none, none], [.int p0])) 1 rfl ?_
  refine bnd hD (fun x1 hx hD => ?_)
  refine ax_Wp.callE (f' := (4, [some (.ref 1), some (.int p0), some (.int p1), some (.int p2), none, none], [])) rfl rfl (w_128 (d := d + 2) hx) rfl ?_
  refine ax_Wp.brD hD rfl (fun _ hD => ?_) (fun _ hD => ?_)
  · refine ax_Wp.go (f' := (8, [some (.ref 1), some (.int p0), some (.int p1), some (.int p2), none, none], [.int (-1)])) 1 rfl ?_
    obtain rfl := inj hD
    exact ax_Wp.ret rfl ⟨rfl, rfl⟩
  · refine ax_Wp.go (f' := (14, [some (.ref 1), some (.int p0), some (.int p1), some (.int p2), none, none], [.int p0, .ref 5])) 3 rfl ?_
    refine bnd hD (fun x2 hx hD => ?_)
    refine ax_Wp.callE (f' := (17, [some (.ref 1), some (.int p0), some (.int p1), some (.int p2), none, none], [])) rfl rfl (w_3 (d := d + 2) hx) rfl ?_
    refine ax_Wp.go (f' := (22, [some (.ref 1), some (.int p0), some (.int p1), some (.int p2), some (.int x2), some (.int (nI 0))], [])) 3 rfl ?_
    refine ax_Wp.lpD (fun (s3 : Int32) => ((22, [some (.ref 1), some (.int p0), some (.int p1), some (.int p2), some (.int x2), some (.int s3)], []), stt m)) ?_ hD
    clear hD
    intro s3 v hD ks3
    refine ax_Wp.go (f' := (31, [some (.ref 1), some (.int p0), some (.int p1), some (.int p2), some (.int x2), some (.int s3)], [.int (rI m 2 4), .int s3])) 4 rfl ?_
    refine ax_Wp.brD hD rfl (fun _ hD => ?_) (fun _ hD => ?_)
    · refine ax_Wp.go (f' := (106, [some (.ref 1), some (.int p0), some (.int p1), some (.int p2), some (.int x2), some (.int s3)], [.int (-1)])) 1 rfl ?_
      obtain rfl := inj hD
      obtain rfl := ks3.o
      exact ax_Wp.ret rfl ⟨rfl, rfl⟩
    · refine ax_Wp.go (f' := (43, [some (.ref 1), some (.int p0), some (.int p1), some (.int p2), some (.int x2), some (.int s3)], [.int s3, .ref 3])) 4 rfl ?_
      refine ax_Wp.rdI hD rfl rfl rfl (fun x4 hD => ?_)
      refine ax_Wp.go (f' := (52, [some (.ref 1), some (.int p0), some (.int p1), some (.int p2), some (.int x2), some (.int s3)], [.int p0, .ref 6, .int x4])) 4 rfl ?_
      refine ax_Wp.rdI hD rfl rfl rfl (fun x5 hD => ?_)
      refine ax_Wp.brD hD rfl (fun _ hD => ?_) (fun _ hD => ?_)
      · refine ax_Wp.go (f' := (64, [some (.ref 1), some (.int p0), some (.int p1), some (.int p2), some (.int x2), some (.int s3)], [.int x2, .int s3, .ref 2])) 4 rfl ?_
        refine bnd hD (fun x6 hx hD => ?_)
        refine ax_Wp.callE (f' := (67, [some (.ref 1), some (.int p0), some (.int p1), some (.int p2), some (.int x2), some (.int s3)], [])) rfl rfl (w_64 (d := d + 1) hx) rfl ?_
        refine ax_Wp.brD hD rfl (fun _ hD => ?_) (fun _ hD => ?_)
        · refine ax_Wp.go (f' := (22, [some (.ref 1), some (.int p0), some (.int p1), some (.int p2), some (.int x2), some (.int (s3 + (nI 1)))], [])) 2 rfl ?_
          obtain rfl := inj hD
          exact ks3.i
        · refine ax_Wp.go (f' := (83, [some (.ref 1), some (.int p0), some (.int p1), some (.int p2), some (.int x2), some (.int s3)], [.int s3, .ref 4, .ref 2])) 6 rfl ?_
          refine ax_Wp.rdI hD rfl rfl rfl (fun x7 hD => ?_)
          refine ax_Wp.go (f' := (87, [some (.ref 1), some (.int p0), some (.int p1), some (.int p2), some (.int x2), some (.int s3)], [.int x2, .int p1, .int x7, .ref 2])) 2 rfl ?_
          refine bnd hD (fun x8 hx hD => ?_)
          refine ax_Wp.callE (f' := (90, [some (.ref 1), some (.int p0), some (.int p1), some (.int p2), some (.int x2), some (.int s3)], [])) rfl rfl (w_68 (d := d + 0) hx) rfl ?_
          refine ax_Wp.go (f' := (93, [some (.ref 1), some (.int p0), some (.int p1), some (.int p2), some (.int x2), some (.int s3)], [.int (p2 - (nI 1)), .int x8])) 3 rfl ?_
          refine ax_Wp.brD hD rfl (fun _ hD => ?_) (fun _ hD => ?_)
          · refine ax_Wp.go (f' := (98, [some (.ref 1), some (.int p0), some (.int p1), some (.int p2), some (.int x2), some (.int s3)], [.int s3])) 1 rfl ?_
            obtain rfl := inj hD
            obtain rfl := ks3.o
            exact ax_Wp.ret rfl ⟨rfl, rfl⟩
          · refine ax_Wp.go (f' := (22, [some (.ref 1), some (.int p0), some (.int p1), some (.int p2), some (.int x2), some (.int (s3 + (nI 1)))], [])) 2 rfl ?_
            obtain rfl := inj hD
            exact ks3.i
      · refine ax_Wp.go (f' := (22, [some (.ref 1), some (.int p0), some (.int p1), some (.int p2), some (.int x2), some (.int (s3 + (nI 1)))], [])) 2 rfl ?_
        obtain rfl := inj hD
        exact ks3.i
def D116 (m : dM) (p0 : Int32) (p1 : Int32) : Option (Int32 ⊕ Nat) := cT (D124 p0) m (fun (x1 : Unit) => cT (D123 p1) m (fun (x4 : Unit) => (D53 m p0 p1).bind fun (x7 : Int32) => if (nI 0) < x7 then (D54 m p0 p1 x7).bind fun (x8 : Int32) => some (.inl x8) else some (.inr 2)) (fun (j5 : Nat) (m6 : dM) => some (.inr j5))) (fun (j2 : Nat) (m3 : dM) => some (.inr j2))
set_option maxRecDepth 20000 in
theorem w_116 {X : Nat × (Nat → Int32)} {d : Nat} {m : dM} {p0 : Int32} {p1 : Int32} {r : Int32 ⊕ Nat} (hD : D116 m p0 p1 = some r) : ax_Ev X (d + 7) 116 [.ref 0, .int p0, .int p1] (stt m) (oT (fun x => some (.int x)) r) (stt (bT m r)) := by
  unfold D116 at hD
  show ax_Wp X (d + 6 + 1) 116 (0, [some (.ref 0), some (.int p0), some (.int p1), none], []) (stt m) _
  refine ax_Wp.go (f' := (1, [some (.ref 0), some (.int p0), some (.int p1), none], [.int p0])) 1 rfl ?_
  refine cT.sp hD (fun x1 hx hD => ?_) (fun j2 hx hD => ?_)
  · refine ax_Wp.callE (f' := (4, [some (.ref 0), some (.int p0), some (.int p1), none], [])) rfl rfl (w_124 (d := d + 0) hx) rfl ?_
    refine ax_Wp.go (f' := (5, [some (.ref 0), some (.int p0), some (.int p1), none], [.int p1])) 1 rfl ?_
    refine cT.sp hD (fun x4 hx hD => ?_) (fun j5 hx hD => ?_)
    · refine ax_Wp.callE (f' := (8, [some (.ref 0), some (.int p0), some (.int p1), none], [])) rfl rfl (w_123 (d := d + 0) hx) rfl ?_
      refine ax_Wp.go (f' := (14, [some (.ref 0), some (.int p0), some (.int p1), none], [.int p1, .int p0, .ref 1])) 4 rfl ?_
      refine bnd hD (fun x7 hx hD => ?_)
      refine ax_Wp.callE (f' := (17, [some (.ref 0), some (.int p0), some (.int p1), none], [])) rfl rfl (w_53 (d := d + 2) hx) rfl ?_
      refine ax_Wp.go (f' := (19, [some (.ref 0), some (.int p0), some (.int p1), some (.int x7)], [.int x7])) 2 rfl ?_
      refine ax_Wp.brD hD rfl (fun _ hD => ?_) (fun _ hD => ?_)
      · refine ax_Wp.go (f' := (40, [some (.ref 0), some (.int p0), some (.int p1), some (.int x7)], [.int x7, .int p1, .int p0, .ref 1])) 5 rfl ?_
        refine bnd hD (fun x8 hx hD => ?_)
        refine ax_Wp.callE (f' := (43, [some (.ref 0), some (.int p0), some (.int p1), some (.int x7)], [])) rfl rfl (w_54 (d := d + 2) hx) rfl ?_
        obtain rfl := inj hD
        exact ax_Wp.ret rfl ⟨rfl, rfl⟩
      · obtain rfl := inj hD
        exact ax_Wp.thr rfl (ax_six _ rfl) ⟨rfl, rfl⟩
    · obtain rfl := inj hD
      exact ax_Wp.callX (f' := (8, [some (.ref 0), some (.int p0), some (.int p1), none], [])) rfl rfl (w_123 (d := d + 0) hx) rfl ⟨rfl, rfl⟩
  · obtain rfl := inj hD
    exact ax_Wp.callX (f' := (4, [some (.ref 0), some (.int p0), some (.int p1), none], [])) rfl rfl (w_124 (d := d + 0) hx) rfl ⟨rfl, rfl⟩
def D279 (m : dM) (p0 : Int32) (p1 : Int32) : Option (Int32 × dM) := cT (D116 m p0 p1) m (fun (x1 : Int32) => (sL m 138 1 (nI 0) x1.toInt64).bind fun (m4 : dM) => some (nI 0, m4)) (fun (j2 : Nat) (m3 : dM) => if j2 = 0 then some (nI 1, m3) else if j2 = 2 then some (nI 2, m3) else none)
set_option maxRecDepth 20000 in
theorem w_279 {X : Nat × (Nat → Int32)} {d : Nat} {m : dM} {p0 : Int32} {p1 : Int32} {r : Int32 × dM} (hD : D279 m p0 p1 = some r) : ax_Ev X (d + 8) 279 [.ref 0, .int p0, .int p1, .ref 138] (stt m) (.inl (some (.int r.1))) (stt r.2) := by
  unfold D279 at hD
  show ax_Wp X (d + 7 + 1) 279 (0, [some (.ref 0), some (.int p0), some (.int p1), some (.ref 138), none], []) (stt m) _
  refine ax_Wp.go (f' := (5, [some (.ref 0), some (.int p0), some (.int p1), some (.ref 138), none], [.int p1, .int p0, .ref 0, .int (nI 0), .ref 138])) 5 rfl ?_
  refine cT.sp hD (fun x1 hx hD => ?_) (fun j2 hx hD => ?_)
  · refine ax_Wp.callE (f' := (8, [some (.ref 0), some (.int p0), some (.int p1), some (.ref 138), none], [.int (nI 0), .ref 138])) rfl rfl (w_116 (d := d + 0) hx) rfl ?_
    refine ax_Wp.go (f' := (9, [some (.ref 0), some (.int p0), some (.int p1), some (.ref 138), none], [.long x1.toInt64, .int (nI 0), .ref 138])) 1 rfl ?_
    refine ax_Wp.wrL hD rfl rfl (fun _ => rfl) (fun m4 hD => ?_)
    refine ax_Wp.go (f' := (22, [some (.ref 0), some (.int p0), some (.int p1), some (.ref 138), none], [.int (nI 0)])) 2 rfl ?_
    obtain rfl := inj hD
    exact ax_Wp.ret rfl ⟨rfl, rfl⟩
  · refine swD hD (fun e hD => ?_) (fun _ hD => ?_)
    · cases e
      refine ax_Wp.callH (f' := (8, [some (.ref 0), some (.int p0), some (.int p1), some (.ref 138), none], [.int (nI 0), .ref 138])) (pc2 := 15) (i := 4) rfl rfl (w_116 (d := d + 0) hx) rfl rfl rfl ?_
      refine ax_Wp.go (f' := (16, [some (.ref 0), some (.int p0), some (.int p1), some (.ref 138), none], [.int (nI 1)])) 1 rfl ?_
      obtain rfl := inj hD
      exact ax_Wp.ret rfl ⟨rfl, rfl⟩
    refine swD hD (fun e hD => ?_) (fun _ hD => ?_)
    · cases e
      refine ax_Wp.callH (f' := (8, [some (.ref 0), some (.int p0), some (.int p1), some (.ref 138), none], [.int (nI 0), .ref 138])) (pc2 := 19) (i := 4) rfl rfl (w_116 (d := d + 0) hx) rfl rfl rfl ?_
      refine ax_Wp.go (f' := (20, [some (.ref 0), some (.int p0), some (.int p1), some (.ref 138), none], [.int (nI 2)])) 1 rfl ?_
      obtain rfl := inj hD
      exact ax_Wp.ret rfl ⟨rfl, rfl⟩
    cases hD
def D56 (m : dM) (p0 : Int32) (p1 : Int32) : Option (Int32) := (D128 p0).bind fun (x1 : Int32) => if x1 = (nI 0) then some (-1) else (D31 m p1).bind fun (x2 : Int32) => if x2 = (nI 0) then some (-1) else (gI m 12 8 p1).bind fun (x3 : Int32) => (D45 m p0).bind fun (x4 : Int32) => if x3 ≤ x4 then (D3 m p0).bind fun (x5 : Int32) => (gI m 14 8 p1).bind fun (x6 : Int32) => (gI m 6 4 p0).bind fun (x7 : Int32) => (D68 m x7 x6 x5).bind fun (x8 : Int32) => (gI m 11 8 p1).bind fun (x9 : Int32) => (D68 m x6 x9 x5).bind fun (x10 : Int32) => Option.bind ((if x8 = (-1) then some (-1) else if x10 = (-1) then some (-1) else some (x8 + x10)) : Option (Int32)) fun (v11 : Int32) => some v11 else some (-1)
set_option maxRecDepth 20000 in
theorem w_56 {X : Nat × (Nat → Int32)} {d : Nat} {m : dM} {p0 : Int32} {p1 : Int32} {r : Int32} (hD : D56 m p0 p1 = some r) : ax_Ev X (d + 4) 56 [.ref 1, .int p0, .int p1] (stt m) (.inl (some (.int r))) (stt m) := by
  unfold D56 at hD
  show ax_Wp X (d + 3 + 1) 56 (0, [some (.ref 1), some (.int p0), some (.int p1), none, none, none, none], []) (stt m) _
  refine ax_Wp.go (f' := (1, [some (.ref 1), some (.int p0), some (.int p1), none, none, none, none], [.int p0])) 1 rfl ?_
  refine bnd hD (fun x1 hx hD => ?_)
  refine ax_Wp.callE (f' := (4, [some (.ref 1), some (.int p0), some (.int p1), none, none, none, none], [])) rfl rfl (w_128 (d := d + 2) hx) rfl ?_
  refine ax_Wp.brD hD rfl (fun _ hD => ?_) (fun _ hD => ?_)
  · refine ax_Wp.go (f' := (36, [some (.ref 1), some (.int p0), some (.int p1), none, none, none, none], [.int (-1)])) 1 rfl ?_
    obtain rfl := inj hD
    exact ax_Wp.ret rfl ⟨rfl, rfl⟩
  · refine ax_Wp.go (f' := (12, [some (.ref 1), some (.int p0), some (.int p1), none, none, none, none], [.int p1, .ref 10])) 3 rfl ?_
    refine bnd hD (fun x2 hx hD => ?_)
    refine ax_Wp.callE (f' := (15, [some (.ref 1), some (.int p0), some (.int p1), none, none, none, none], [])) rfl rfl (w_31 (d := d + 1) hx) rfl ?_
    refine ax_Wp.brD hD rfl (fun _ hD => ?_) (fun _ hD => ?_)
    · refine ax_Wp.go (f' := (36, [some (.ref 1), some (.int p0), some (.int p1), none, none, none, none], [.int (-1)])) 1 rfl ?_
      obtain rfl := inj hD
      exact ax_Wp.ret rfl ⟨rfl, rfl⟩
    · refine ax_Wp.go (f' := (26, [some (.ref 1), some (.int p0), some (.int p1), none, none, none, none], [.int p1, .ref 12])) 4 rfl ?_
      refine ax_Wp.rdI hD rfl rfl rfl (fun x3 hD => ?_)
      refine ax_Wp.go (f' := (29, [some (.ref 1), some (.int p0), some (.int p1), none, none, none, none], [.int p0, .ref 1, .int x3])) 2 rfl ?_
      refine bnd hD (fun x4 hx hD => ?_)
      refine ax_Wp.callE (f' := (32, [some (.ref 1), some (.int p0), some (.int p1), none, none, none, none], [.int x3])) rfl rfl (w_45 (d := d + 1) hx) rfl ?_
      refine ax_Wp.brD hD rfl (fun _ hD => ?_) (fun _ hD => ?_)
      · refine ax_Wp.go (f' := (42, [some (.ref 1), some (.int p0), some (.int p1), none, none, none, none], [.int p0, .ref 5])) 3 rfl ?_
        refine bnd hD (fun x5 hx hD => ?_)
        refine ax_Wp.callE (f' := (45, [some (.ref 1), some (.int p0), some (.int p1), none, none, none, none], [])) rfl rfl (w_3 (d := d + 2) hx) rfl ?_
        refine ax_Wp.go (f' := (54, [some (.ref 1), some (.int p0), some (.int p1), some (.int x5), none, none, none], [.int p1, .ref 14])) 5 rfl ?_
        refine ax_Wp.rdI hD rfl rfl rfl (fun x6 hD => ?_)
        refine ax_Wp.go (f' := (69, [some (.ref 1), some (.int p0), some (.int p1), some (.int x5), some (.int x6), none, none], [.int p0, .ref 6, .ref 2])) 7 rfl ?_
        refine ax_Wp.rdI hD rfl rfl rfl (fun x7 hD => ?_)
        refine ax_Wp.go (f' := (73, [some (.ref 1), some (.int p0), some (.int p1), some (.int x5), some (.int x6), none, none], [.int x5, .int x6, .int x7, .ref 2])) 2 rfl ?_
        refine bnd hD (fun x8 hx hD => ?_)
        refine ax_Wp.callE (f' := (76, [some (.ref 1), some (.int p0), some (.int p1), some (.int x5), some (.int x6), none, none], [])) rfl rfl (w_68 (d := d + 0) hx) rfl ?_
        refine ax_Wp.go (f' := (92, [some (.ref 1), some (.int p0), some (.int p1), some (.int x5), some (.int x6), some (.int x8), none], [.int p1, .ref 11, .int x6, .ref 2])) 8 rfl ?_
        refine ax_Wp.rdI hD rfl rfl rfl (fun x9 hD => ?_)
        refine ax_Wp.go (f' := (94, [some (.ref 1), some (.int p0), some (.int p1), some (.int x5), some (.int x6), some (.int x8), none], [.int x5, .int x9, .int x6, .ref 2])) 1 rfl ?_
        refine bnd hD (fun x10 hx hD => ?_)
        refine ax_Wp.callE (f' := (97, [some (.ref 1), some (.int p0), some (.int p1), some (.int x5), some (.int x6), some (.int x8), none], [])) rfl rfl (w_68 (d := d + 0) hx) rfl ?_
        refine ax_Wp.go (f' := (102, [some (.ref 1), some (.int p0), some (.int p1), some (.int x5), some (.int x6), some (.int x8), some (.int x10)], [.int (-1), .int x8])) 3 rfl ?_
        refine bnd hD (fun v11 hx hD => ?_)
        refine ax_Wp.jn (F := (120, [some (.ref 1), none, none, none, none, none, none], [.int v11])) (hh := stt m) ?_ (fun kkv11 => ?_)
        · obtain rfl := inj hD
          exact ax_Wp.ret rfl ⟨rfl, rfl⟩
        clear hD
        have hD := hx
        clear hx
        refine ax_Wp.brD hD rfl (fun _ hD => ?_) (fun _ hD => ?_)
        · refine ax_Wp.go (f' := (120, [some (.ref 1), some (.int p0), some (.int p1), some (.int x5), some (.int x6), some (.int x8), some (.int x10)], [.int (-1)])) 2 rfl ?_
          obtain rfl := inj hD
          exact ax_Wp.dead kkv11 ⟨.inl rfl, ⟨.inr ⟨rfl, trivial⟩, ⟨.inr ⟨rfl, trivial⟩, ⟨.inr ⟨rfl, trivial⟩, ⟨.inr ⟨rfl, trivial⟩, ⟨.inr ⟨rfl, trivial⟩, ⟨.inr ⟨rfl, trivial⟩, trivial⟩⟩⟩⟩⟩⟩⟩
        · refine ax_Wp.go (f' := (108, [some (.ref 1), some (.int p0), some (.int p1), some (.int x5), some (.int x6), some (.int x8), some (.int x10)], [.int (-1), .int x10])) 2 rfl ?_
          refine ax_Wp.brD hD rfl (fun _ hD => ?_) (fun _ hD => ?_)
          · refine ax_Wp.go (f' := (120, [some (.ref 1), some (.int p0), some (.int p1), some (.int x5), some (.int x6), some (.int x8), some (.int x10)], [.int (-1)])) 2 rfl ?_
            obtain rfl := inj hD
            exact ax_Wp.dead kkv11 ⟨.inl rfl, ⟨.inr ⟨rfl, trivial⟩, ⟨.inr ⟨rfl, trivial⟩, ⟨.inr ⟨rfl, trivial⟩, ⟨.inr ⟨rfl, trivial⟩, ⟨.inr ⟨rfl, trivial⟩, ⟨.inr ⟨rfl, trivial⟩, trivial⟩⟩⟩⟩⟩⟩⟩
          · refine ax_Wp.go (f' := (120, [some (.ref 1), some (.int p0), some (.int p1), some (.int x5), some (.int x6), some (.int x8), some (.int x10)], [.int (x8 + x10)])) 3 rfl ?_
            obtain rfl := inj hD
            exact ax_Wp.dead kkv11 ⟨.inl rfl, ⟨.inr ⟨rfl, trivial⟩, ⟨.inr ⟨rfl, trivial⟩, ⟨.inr ⟨rfl, trivial⟩, ⟨.inr ⟨rfl, trivial⟩, ⟨.inr ⟨rfl, trivial⟩, ⟨.inr ⟨rfl, trivial⟩, trivial⟩⟩⟩⟩⟩⟩⟩
      · refine ax_Wp.go (f' := (36, [some (.ref 1), some (.int p0), some (.int p1), none, none, none, none], [.int (-1)])) 1 rfl ?_
        obtain rfl := inj hD
        exact ax_Wp.ret rfl ⟨rfl, rfl⟩
def D55 (m : dM) (p0 : Int32) : Option (Int32) := Option.bind (lp (β := Int32) 3000 (fun (s1 : Int32 × Int32 × Int32 × Int32) => if (rI m 10 4) ≤ s1.2.2.2 then some (.inr s1.1) else (D56 m p0 s1.2.2.2).bind fun (x3 : Int32) => (gI m 13 8 s1.2.2.2).bind fun (x4 : Int32) => Option.bind ((if x3 = (-1) then some (s1.1, s1.2.1, s1.2.2.1) else if s1.1 = (-1) then some (s1.2.2.2, x3, x4) else if x3 < s1.2.1 then some (s1.2.2.2, x3, x4) else if x3 = s1.2.1 then if x4 ≤ s1.2.2.1 then some (s1.1, s1.2.1, s1.2.2.1) else some (s1.2.2.2, x3, x4) else some (s1.1, s1.2.1, s1.2.2.1)) : Option (Int32 × Int32 × Int32)) fun (v5 : Int32 × Int32 × Int32) => some (.inl (v5.1, v5.2.1, v5.2.2, s1.2.2.2 + (nI 1)))) ((-1), nI 0, nI 0, nI 0)) fun (v2 : Int32) => some v2
set_option maxRecDepth 20000 in
theorem w_55 {X : Nat × (Nat → Int32)} {d : Nat} {m : dM} {p0 : Int32} {r : Int32} (hD : D55 m p0 = some r) : ax_Ev X (d + 5) 55 [.ref 1, .int p0] (stt m) (.inl (some (.int r))) (stt m) := by
  unfold D55 at hD
  show ax_Wp X (d + 4 + 1) 55 (0, [some (.ref 1), some (.int p0), none, none, none, none, none, none], []) (stt m) _
  refine ax_Wp.go (f' := (10, [some (.ref 1), some (.int p0), some (.int (-1)), some (.int (nI 0)), some (.int (nI 0)), some (.int (nI 0)), none, none], [])) 8 rfl ?_
  refine bnd hD (fun v2 hx hD => ?_)
  refine ax_Wp.jn (F := (89, [some (.ref 1), none, some (.int v2), none, none, none, none, none], [])) (hh := stt m) ?_ (fun kkv2 => ?_)
  · refine ax_Wp.go (f' := (90, [some (.ref 1), none, some (.int v2), none, none, none, none, none], [.int v2])) 1 rfl ?_
    obtain rfl := inj hD
    exact ax_Wp.ret rfl ⟨rfl, rfl⟩
  clear hD
  refine ax_Wp.lpD (fun (s1 : Int32 × Int32 × Int32 × Int32) => ((10, [some (.ref 1), some (.int p0), some (.int s1.1), some (.int s1.2.1), some (.int s1.2.2.1), some (.int s1.2.2.2), none, none], []), stt m)) ?_ hx
  clear hx
  intro s1 v hD ks1
  refine ax_Wp.go (f' := (19, [some (.ref 1), some (.int p0), some (.int s1.1), some (.int s1.2.1), some (.int s1.2.2.1), some (.int s1.2.2.2), none, none], [.int (rI m 10 4), .int s1.2.2.2])) 4 rfl ?_
  refine ax_Wp.brD hD rfl (fun _ hD => ?_) (fun _ hD => ?_)
  · obtain rfl := inj hD
    obtain rfl := ks1.o
    exact ax_Wp.dead kkv2 ⟨.inl rfl, ⟨.inr ⟨rfl, trivial⟩, ⟨.inl rfl, ⟨.inr ⟨rfl, trivial⟩, ⟨.inr ⟨rfl, trivial⟩, ⟨.inr ⟨rfl, trivial⟩, ⟨.inl rfl, ⟨.inl rfl, trivial⟩⟩⟩⟩⟩⟩⟩⟩
  · refine ax_Wp.go (f' := (26, [some (.ref 1), some (.int p0), some (.int s1.1), some (.int s1.2.1), some (.int s1.2.2.1), some (.int s1.2.2.2), none, none], [.int s1.2.2.2, .int p0, .ref 1])) 3 rfl ?_
    refine bnd hD (fun x3 hx hD => ?_)
    refine ax_Wp.callE (f' := (29, [some (.ref 1), some (.int p0), some (.int s1.1), some (.int s1.2.1), some (.int s1.2.2.1), some (.int s1.2.2.2), none, none], [])) rfl rfl (w_56 (d := d + 0) hx) rfl ?_
    refine ax_Wp.go (f' := (40, [some (.ref 1), some (.int p0), some (.int s1.1), some (.int s1.2.1), some (.int s1.2.2.1), some (.int s1.2.2.2), some (.int x3), none], [.int s1.2.2.2, .ref 13])) 5 rfl ?_
    refine ax_Wp.rdI hD rfl rfl rfl (fun x4 hD => ?_)
    refine ax_Wp.go (f' := (46, [some (.ref 1), some (.int p0), some (.int s1.1), some (.int s1.2.1), some (.int s1.2.2.1), some (.int s1.2.2.2), some (.int x3), some (.int x4)], [.int (-1), .int x3])) 3 rfl ?_
    refine bnd hD (fun v5 hx hD => ?_)
    refine ax_Wp.jn (F := (83, [some (.ref 1), some (.int p0), some (.int v5.1), some (.int v5.2.1), some (.int v5.2.2), some (.int s1.2.2.2), none, none], [])) (hh := stt m) ?_ (fun kkv5 => ?_)
    · refine ax_Wp.go (f' := (10, [some (.ref 1), some (.int p0), some (.int v5.1), some (.int v5.2.1), some (.int v5.2.2), some (.int (s1.2.2.2 + (nI 1))), none, none], [])) 2 rfl ?_
      obtain rfl := inj hD
      exact ks1.i
    clear hD
    have hD := hx
    clear hx
    refine ax_Wp.brD hD rfl (fun _ hD => ?_) (fun _ hD => ?_)
    · obtain rfl := inj hD
      exact ax_Wp.dead kkv5 ⟨.inl rfl, ⟨.inl rfl, ⟨.inl rfl, ⟨.inl rfl, ⟨.inl rfl, ⟨.inl rfl, ⟨.inr ⟨rfl, trivial⟩, ⟨.inr ⟨rfl, trivial⟩, trivial⟩⟩⟩⟩⟩⟩⟩⟩
    · refine ax_Wp.go (f' := (51, [some (.ref 1), some (.int p0), some (.int s1.1), some (.int s1.2.1), some (.int s1.2.2.1), some (.int s1.2.2.2), some (.int x3), some (.int x4)], [.int (-1), .int s1.1])) 2 rfl ?_
      refine ax_Wp.brD hD rfl (fun _ hD => ?_) (fun _ hD => ?_)
      · refine ax_Wp.go (f' := (83, [some (.ref 1), some (.int p0), some (.int s1.2.2.2), some (.int x3), some (.int x4), some (.int s1.2.2.2), some (.int x3), some (.int x4)], [])) 6 rfl ?_
        obtain rfl := inj hD
        exact ax_Wp.dead kkv5 ⟨.inl rfl, ⟨.inl rfl, ⟨.inl rfl, ⟨.inl rfl, ⟨.inl rfl, ⟨.inl rfl, ⟨.inr ⟨rfl, trivial⟩, ⟨.inr ⟨rfl, trivial⟩, trivial⟩⟩⟩⟩⟩⟩⟩⟩
      · refine ax_Wp.go (f' := (57, [some (.ref 1), some (.int p0), some (.int s1.1), some (.int s1.2.1), some (.int s1.2.2.1), some (.int s1.2.2.2), some (.int x3), some (.int x4)], [.int s1.2.1, .int x3])) 2 rfl ?_
        refine ax_Wp.brD hD rfl (fun _ hD => ?_) (fun _ hD => ?_)
        · refine ax_Wp.go (f' := (83, [some (.ref 1), some (.int p0), some (.int s1.2.2.2), some (.int x3), some (.int x4), some (.int s1.2.2.2), some (.int x3), some (.int x4)], [])) 6 rfl ?_
          obtain rfl := inj hD
          exact ax_Wp.dead kkv5 ⟨.inl rfl, ⟨.inl rfl, ⟨.inl rfl, ⟨.inl rfl, ⟨.inl rfl, ⟨.inl rfl, ⟨.inr ⟨rfl, trivial⟩, ⟨.inr ⟨rfl, trivial⟩, trivial⟩⟩⟩⟩⟩⟩⟩⟩
        · refine ax_Wp.go (f' := (63, [some (.ref 1), some (.int p0), some (.int s1.1), some (.int s1.2.1), some (.int s1.2.2.1), some (.int s1.2.2.2), some (.int x3), some (.int x4)], [.int s1.2.1, .int x3])) 2 rfl ?_
          refine ax_Wp.brD hD rfl (fun _ hD => ?_) (fun _ hD => ?_)
          · refine ax_Wp.go (f' := (70, [some (.ref 1), some (.int p0), some (.int s1.1), some (.int s1.2.1), some (.int s1.2.2.1), some (.int s1.2.2.2), some (.int x3), some (.int x4)], [.int s1.2.2.1, .int x4])) 2 rfl ?_
            refine ax_Wp.brD hD rfl (fun _ hD => ?_) (fun _ hD => ?_)
            · obtain rfl := inj hD
              exact ax_Wp.dead kkv5 ⟨.inl rfl, ⟨.inl rfl, ⟨.inl rfl, ⟨.inl rfl, ⟨.inl rfl, ⟨.inl rfl, ⟨.inr ⟨rfl, trivial⟩, ⟨.inr ⟨rfl, trivial⟩, trivial⟩⟩⟩⟩⟩⟩⟩⟩
            · refine ax_Wp.go (f' := (83, [some (.ref 1), some (.int p0), some (.int s1.2.2.2), some (.int x3), some (.int x4), some (.int s1.2.2.2), some (.int x3), some (.int x4)], [])) 6 rfl ?_
              obtain rfl := inj hD
              exact ax_Wp.dead kkv5 ⟨.inl rfl, ⟨.inl rfl, ⟨.inl rfl, ⟨.inl rfl, ⟨.inl rfl, ⟨.inl rfl, ⟨.inr ⟨rfl, trivial⟩, ⟨.inr ⟨rfl, trivial⟩, trivial⟩⟩⟩⟩⟩⟩⟩⟩
          · obtain rfl := inj hD
            exact ax_Wp.dead kkv5 ⟨.inl rfl, ⟨.inl rfl, ⟨.inl rfl, ⟨.inl rfl, ⟨.inl rfl, ⟨.inl rfl, ⟨.inr ⟨rfl, trivial⟩, ⟨.inr ⟨rfl, trivial⟩, trivial⟩⟩⟩⟩⟩⟩⟩⟩
def D117 (m : dM) (p0 : Int32) : Option (Int32 ⊕ Nat) := cT (D124 p0) m (fun (x1 : Unit) => (D55 m p0).bind fun (x4 : Int32) => if x4 = (-1) then some (.inr 2) else some (.inl x4)) (fun (j2 : Nat) (m3 : dM) => some (.inr j2))
set_option maxRecDepth 20000 in
theorem w_117 {X : Nat × (Nat → Int32)} {d : Nat} {m : dM} {p0 : Int32} {r : Int32 ⊕ Nat} (hD : D117 m p0 = some r) : ax_Ev X (d + 7) 117 [.ref 0, .int p0] (stt m) (oT (fun x => some (.int x)) r) (stt (bT m r)) := by
  unfold D117 at hD
  show ax_Wp X (d + 6 + 1) 117 (0, [some (.ref 0), some (.int p0), none], []) (stt m) _
  refine ax_Wp.go (f' := (1, [some (.ref 0), some (.int p0), none], [.int p0])) 1 rfl ?_
  refine cT.sp hD (fun x1 hx hD => ?_) (fun j2 hx hD => ?_)
  · refine ax_Wp.callE (f' := (4, [some (.ref 0), some (.int p0), none], [])) rfl rfl (w_124 (d := d + 0) hx) rfl ?_
    refine ax_Wp.go (f' := (9, [some (.ref 0), some (.int p0), none], [.int p0, .ref 1])) 3 rfl ?_
    refine bnd hD (fun x4 hx hD => ?_)
    refine ax_Wp.callE (f' := (12, [some (.ref 0), some (.int p0), none], [])) rfl rfl (w_55 (d := d + 1) hx) rfl ?_
    refine ax_Wp.go (f' := (15, [some (.ref 0), some (.int p0), some (.int x4)], [.int (-1), .int x4])) 3 rfl ?_
    refine ax_Wp.brD hD rfl (fun _ hD => ?_) (fun _ hD => ?_)
    · obtain rfl := inj hD
      exact ax_Wp.thr rfl (ax_six _ rfl) ⟨rfl, rfl⟩
    · refine ax_Wp.go (f' := (30, [some (.ref 0), some (.int p0), some (.int x4)], [.int x4])) 1 rfl ?_
      obtain rfl := inj hD
      exact ax_Wp.ret rfl ⟨rfl, rfl⟩
  · obtain rfl := inj hD
    exact ax_Wp.callX (f' := (4, [some (.ref 0), some (.int p0), none], [])) rfl rfl (w_124 (d := d + 0) hx) rfl ⟨rfl, rfl⟩
def D280 (m : dM) (p0 : Int32) : Option (Int32 × dM) := cT (D117 m p0) m (fun (x1 : Int32) => (sL m 138 1 (nI 0) x1.toInt64).bind fun (m4 : dM) => some (nI 0, m4)) (fun (j2 : Nat) (m3 : dM) => if j2 = 0 then some (nI 1, m3) else if j2 = 2 then some (nI 2, m3) else none)
set_option maxRecDepth 20000 in
theorem w_280 {X : Nat × (Nat → Int32)} {d : Nat} {m : dM} {p0 : Int32} {r : Int32 × dM} (hD : D280 m p0 = some r) : ax_Ev X (d + 8) 280 [.ref 0, .int p0, .ref 138] (stt m) (.inl (some (.int r.1))) (stt r.2) := by
  unfold D280 at hD
  show ax_Wp X (d + 7 + 1) 280 (0, [some (.ref 0), some (.int p0), some (.ref 138), none], []) (stt m) _
  refine ax_Wp.go (f' := (4, [some (.ref 0), some (.int p0), some (.ref 138), none], [.int p0, .ref 0, .int (nI 0), .ref 138])) 4 rfl ?_
  refine cT.sp hD (fun x1 hx hD => ?_) (fun j2 hx hD => ?_)
  · refine ax_Wp.callE (f' := (7, [some (.ref 0), some (.int p0), some (.ref 138), none], [.int (nI 0), .ref 138])) rfl rfl (w_117 (d := d + 0) hx) rfl ?_
    refine ax_Wp.go (f' := (8, [some (.ref 0), some (.int p0), some (.ref 138), none], [.long x1.toInt64, .int (nI 0), .ref 138])) 1 rfl ?_
    refine ax_Wp.wrL hD rfl rfl (fun _ => rfl) (fun m4 hD => ?_)
    refine ax_Wp.go (f' := (19, [some (.ref 0), some (.int p0), some (.ref 138), none], [.int (nI 0)])) 2 rfl ?_
    obtain rfl := inj hD
    exact ax_Wp.ret rfl ⟨rfl, rfl⟩
  · refine swD hD (fun e hD => ?_) (fun _ hD => ?_)
    · cases e
      refine ax_Wp.callH (f' := (7, [some (.ref 0), some (.int p0), some (.ref 138), none], [.int (nI 0), .ref 138])) (pc2 := 13) (i := 3) rfl rfl (w_117 (d := d + 0) hx) rfl rfl rfl ?_
      refine ax_Wp.go (f' := (14, [some (.ref 0), some (.int p0), some (.ref 138), none], [.int (nI 1)])) 1 rfl ?_
      obtain rfl := inj hD
      exact ax_Wp.ret rfl ⟨rfl, rfl⟩
    refine swD hD (fun e hD => ?_) (fun _ hD => ?_)
    · cases e
      refine ax_Wp.callH (f' := (7, [some (.ref 0), some (.int p0), some (.ref 138), none], [.int (nI 0), .ref 138])) (pc2 := 16) (i := 3) rfl rfl (w_117 (d := d + 0) hx) rfl rfl rfl ?_
      refine ax_Wp.go (f' := (17, [some (.ref 0), some (.int p0), some (.ref 138), none], [.int (nI 2)])) 1 rfl ?_
      obtain rfl := inj hD
      exact ax_Wp.ret rfl ⟨rfl, rfl⟩
    cases hD
def D118 (m : dM) (p0 : Int32) (p1 : Int32) : Option (Int32 ⊕ Nat) := cT (D124 p0) m (fun (x1 : Unit) => cT (D126 m p1) m (fun (x4 : Unit) => (D51 m p0 p1).bind fun (x7 : Int32) => some (.inl x7)) (fun (j5 : Nat) (m6 : dM) => some (.inr j5))) (fun (j2 : Nat) (m3 : dM) => some (.inr j2))
set_option maxRecDepth 20000 in
theorem w_118 {X : Nat × (Nat → Int32)} {d : Nat} {m : dM} {p0 : Int32} {p1 : Int32} {r : Int32 ⊕ Nat} (hD : D118 m p0 p1 = some r) : ax_Ev X (d + 7) 118 [.ref 0, .int p0, .int p1] (stt m) (oT (fun x => some (.int x)) r) (stt (bT m r)) := by
  unfold D118 at hD
  show ax_Wp X (d + 6 + 1) 118 (0, [some (.ref 0), some (.int p0), some (.int p1)], []) (stt m) _
  refine ax_Wp.go (f' := (1, [some (.ref 0), some (.int p0), some (.int p1)], [.int p0])) 1 rfl ?_
  refine cT.sp hD (fun x1 hx hD => ?_) (fun j2 hx hD => ?_)
  · refine ax_Wp.callE (f' := (4, [some (.ref 0), some (.int p0), some (.int p1)], [])) rfl rfl (w_124 (d := d + 0) hx) rfl ?_
    refine ax_Wp.go (f' := (6, [some (.ref 0), some (.int p0), some (.int p1)], [.int p1, .ref 0])) 2 rfl ?_
    refine cT.sp hD (fun x4 hx hD => ?_) (fun j5 hx hD => ?_)
    · refine ax_Wp.callE (f' := (9, [some (.ref 0), some (.int p0), some (.int p1)], [])) rfl rfl (w_126 (d := d + 0) hx) rfl ?_
      refine ax_Wp.go (f' := (15, [some (.ref 0), some (.int p0), some (.int p1)], [.int p1, .int p0, .ref 1])) 4 rfl ?_
      refine bnd hD (fun x7 hx hD => ?_)
      refine ax_Wp.callE (f' := (18, [some (.ref 0), some (.int p0), some (.int p1)], [])) rfl rfl (w_51 (d := d + 3) hx) rfl ?_
      obtain rfl := inj hD
      exact ax_Wp.ret rfl ⟨rfl, rfl⟩
    · obtain rfl := inj hD
      exact ax_Wp.callX (f' := (9, [some (.ref 0), some (.int p0), some (.int p1)], [])) rfl rfl (w_126 (d := d + 0) hx) rfl ⟨rfl, rfl⟩
  · obtain rfl := inj hD
    exact ax_Wp.callX (f' := (4, [some (.ref 0), some (.int p0), some (.int p1)], [])) rfl rfl (w_124 (d := d + 0) hx) rfl ⟨rfl, rfl⟩
def D281 (m : dM) (p0 : Int32) (p1 : Int32) : Option (Int32 × dM) := cT (D118 m p0 p1) m (fun (x1 : Int32) => (sL m 138 1 (nI 0) x1.toInt64).bind fun (m4 : dM) => some (nI 0, m4)) (fun (j2 : Nat) (m3 : dM) => if j2 = 0 then some (nI 1, m3) else none)
set_option maxRecDepth 20000 in
theorem w_281 {X : Nat × (Nat → Int32)} {d : Nat} {m : dM} {p0 : Int32} {p1 : Int32} {r : Int32 × dM} (hD : D281 m p0 p1 = some r) : ax_Ev X (d + 8) 281 [.ref 0, .int p0, .int p1, .ref 138] (stt m) (.inl (some (.int r.1))) (stt r.2) := by
  unfold D281 at hD
  show ax_Wp X (d + 7 + 1) 281 (0, [some (.ref 0), some (.int p0), some (.int p1), some (.ref 138), none], []) (stt m) _
  refine ax_Wp.go (f' := (5, [some (.ref 0), some (.int p0), some (.int p1), some (.ref 138), none], [.int p1, .int p0, .ref 0, .int (nI 0), .ref 138])) 5 rfl ?_
  refine cT.sp hD (fun x1 hx hD => ?_) (fun j2 hx hD => ?_)
  · refine ax_Wp.callE (f' := (8, [some (.ref 0), some (.int p0), some (.int p1), some (.ref 138), none], [.int (nI 0), .ref 138])) rfl rfl (w_118 (d := d + 0) hx) rfl ?_
    refine ax_Wp.go (f' := (9, [some (.ref 0), some (.int p0), some (.int p1), some (.ref 138), none], [.long x1.toInt64, .int (nI 0), .ref 138])) 1 rfl ?_
    refine ax_Wp.wrL hD rfl rfl (fun _ => rfl) (fun m4 hD => ?_)
    refine ax_Wp.go (f' := (18, [some (.ref 0), some (.int p0), some (.int p1), some (.ref 138), none], [.int (nI 0)])) 2 rfl ?_
    obtain rfl := inj hD
    exact ax_Wp.ret rfl ⟨rfl, rfl⟩
  · refine swD hD (fun e hD => ?_) (fun _ hD => ?_)
    · cases e
      refine ax_Wp.callH (f' := (8, [some (.ref 0), some (.int p0), some (.int p1), some (.ref 138), none], [.int (nI 0), .ref 138])) (pc2 := 15) (i := 4) rfl rfl (w_118 (d := d + 0) hx) rfl rfl rfl ?_
      refine ax_Wp.go (f' := (16, [some (.ref 0), some (.int p0), some (.int p1), some (.ref 138), none], [.int (nI 1)])) 1 rfl ?_
      obtain rfl := inj hD
      exact ax_Wp.ret rfl ⟨rfl, rfl⟩
    cases hD
def D119 (m : dM) (p0 : Int32) : Option ((Int32 ⊕ Nat) × dM) := cT (D124 p0) m (fun (x1 : Unit) => (D7 m).bind fun (r4 : dM) => (gI r4 40 4 p0).bind fun (x5 : Int32) => some (.inl x5, r4)) (fun (j2 : Nat) (m3 : dM) => some (.inr j2, m3))
set_option maxRecDepth 20000 in
theorem w_119 {X : Nat × (Nat → Int32)} {d : Nat} {m : dM} {p0 : Int32} {r : (Int32 ⊕ Nat) × dM} (hD : D119 m p0 = some r) : ax_Ev X (d + 7) 119 [.ref 0, .int p0] (stt m) (oT (fun x => some (.int x)) r.1) (stt r.2) := by
  unfold D119 at hD
  show ax_Wp X (d + 6 + 1) 119 (0, [some (.ref 0), some (.int p0)], []) (stt m) _
  refine ax_Wp.go (f' := (1, [some (.ref 0), some (.int p0)], [.int p0])) 1 rfl ?_
  refine cT.sp hD (fun x1 hx hD => ?_) (fun j2 hx hD => ?_)
  · refine ax_Wp.callE (f' := (4, [some (.ref 0), some (.int p0)], [])) rfl rfl (w_124 (d := d + 0) hx) rfl ?_
    refine ax_Wp.go (f' := (12, [some (.ref 0), some (.int p0)], [.ref 1, .ref 36])) 4 rfl ?_
    refine bnd hD (fun r4 hx hD => ?_)
    refine ax_Wp.callE (f' := (15, [some (.ref 0), some (.int p0)], [])) rfl rfl (w_7 (d := d + 3) hx) rfl ?_
    refine ax_Wp.go (f' := (23, [some (.ref 0), some (.int p0)], [.int p0, .ref 40])) 4 rfl ?_
    refine ax_Wp.rdI hD rfl rfl rfl (fun x5 hD => ?_)
    obtain rfl := inj hD
    exact ax_Wp.ret rfl ⟨rfl, rfl⟩
  · obtain rfl := inj hD
    exact ax_Wp.callX (f' := (4, [some (.ref 0), some (.int p0)], [])) rfl rfl (w_124 (d := d + 0) hx) rfl ⟨rfl, rfl⟩
def D282 (m : dM) (p0 : Int32) : Option (Int32 × dM) := cG (D119 m p0) (fun (x1 : Int32) (m4 : dM) => (sL m4 138 1 (nI 0) x1.toInt64).bind fun (m5 : dM) => some (nI 0, m5)) (fun (j2 : Nat) (m3 : dM) => if j2 = 0 then some (nI 1, m3) else none)
set_option maxRecDepth 20000 in
theorem w_282 {X : Nat × (Nat → Int32)} {d : Nat} {m : dM} {p0 : Int32} {r : Int32 × dM} (hD : D282 m p0 = some r) : ax_Ev X (d + 8) 282 [.ref 0, .int p0, .ref 138] (stt m) (.inl (some (.int r.1))) (stt r.2) := by
  unfold D282 at hD
  show ax_Wp X (d + 7 + 1) 282 (0, [some (.ref 0), some (.int p0), some (.ref 138), none], []) (stt m) _
  refine ax_Wp.go (f' := (4, [some (.ref 0), some (.int p0), some (.ref 138), none], [.int p0, .ref 0, .int (nI 0), .ref 138])) 4 rfl ?_
  refine cG.sp hD (fun x1 m4 hx hD => ?_) (fun j2 m3 hx hD => ?_)
  · refine ax_Wp.callE (f' := (7, [some (.ref 0), some (.int p0), some (.ref 138), none], [.int (nI 0), .ref 138])) rfl rfl (w_119 (d := d + 0) hx) rfl ?_
    refine ax_Wp.go (f' := (8, [some (.ref 0), some (.int p0), some (.ref 138), none], [.long x1.toInt64, .int (nI 0), .ref 138])) 1 rfl ?_
    refine ax_Wp.wrL hD rfl rfl (fun _ => rfl) (fun m5 hD => ?_)
    refine ax_Wp.go (f' := (16, [some (.ref 0), some (.int p0), some (.ref 138), none], [.int (nI 0)])) 2 rfl ?_
    obtain rfl := inj hD
    exact ax_Wp.ret rfl ⟨rfl, rfl⟩
  · refine swD hD (fun e hD => ?_) (fun _ hD => ?_)
    · cases e
      refine ax_Wp.callH (f' := (7, [some (.ref 0), some (.int p0), some (.ref 138), none], [.int (nI 0), .ref 138])) (pc2 := 13) (i := 3) rfl rfl (w_119 (d := d + 0) hx) rfl rfl rfl ?_
      refine ax_Wp.go (f' := (14, [some (.ref 0), some (.int p0), some (.ref 138), none], [.int (nI 1)])) 1 rfl ?_
      obtain rfl := inj hD
      exact ax_Wp.ret rfl ⟨rfl, rfl⟩
    cases hD
def D144 (p0 : Int32) (p1 : Int32) (p2 : Int32) : Option (Int32) := Option.bind ((if p0 < p1 then some (nI 0) else if p2 < p0 then some (nI 0) else some (nI 1)) : Option (Int32)) fun (v1 : Int32) => (gB v1).bind fun (b2 : Int32) => some b2
set_option maxRecDepth 20000 in
theorem w_144 {X : Nat × (Nat → Int32)} {d : Nat} {m : dM} {p0 : Int32} {p1 : Int32} {p2 : Int32} {r : Int32} (hD : D144 p0 p1 p2 = some r) : ax_Ev X (d + 1) 144 [.int p0, .int p1, .int p2] (stt m) (.inl (some (.int r))) (stt m) := by
  unfold D144 at hD
  show ax_Wp X (d + 0 + 1) 144 (0, [some (.int p0), some (.int p1), some (.int p2)], []) (stt m) _
  refine ax_Wp.go (f' := (2, [some (.int p0), some (.int p1), some (.int p2)], [.int p1, .int p0])) 2 rfl ?_
  refine bnd hD (fun v1 hx hD => ?_)
  refine ax_Wp.jn (F := (15, [none, none, none], [.int v1])) (hh := stt m) ?_ (fun kkv1 => ?_)
  · refine ax_Wp.retB hD rfl (fun b2 hD => ?_)
    obtain rfl := inj hD
    exact ⟨rfl, rfl⟩
  clear hD
  have hD := hx
  clear hx
  refine ax_Wp.brD hD rfl (fun _ hD => ?_) (fun _ hD => ?_)
  · refine ax_Wp.go (f' := (15, [some (.int p0), some (.int p1), some (.int p2)], [.int (nI 0)])) 1 rfl ?_
    obtain rfl := inj hD
    exact ax_Wp.dead kkv1 ⟨.inr ⟨rfl, trivial⟩, ⟨.inr ⟨rfl, trivial⟩, ⟨.inr ⟨rfl, trivial⟩, trivial⟩⟩⟩
  · refine ax_Wp.go (f' := (7, [some (.int p0), some (.int p1), some (.int p2)], [.int p2, .int p0])) 2 rfl ?_
    refine ax_Wp.brD hD rfl (fun _ hD => ?_) (fun _ hD => ?_)
    · refine ax_Wp.go (f' := (15, [some (.int p0), some (.int p1), some (.int p2)], [.int (nI 0)])) 1 rfl ?_
      obtain rfl := inj hD
      exact ax_Wp.dead kkv1 ⟨.inr ⟨rfl, trivial⟩, ⟨.inr ⟨rfl, trivial⟩, ⟨.inr ⟨rfl, trivial⟩, trivial⟩⟩⟩
    · refine ax_Wp.go (f' := (15, [some (.int p0), some (.int p1), some (.int p2)], [.int (nI 1)])) 2 rfl ?_
      obtain rfl := inj hD
      exact ax_Wp.dead kkv1 ⟨.inr ⟨rfl, trivial⟩, ⟨.inr ⟨rfl, trivial⟩, ⟨.inr ⟨rfl, trivial⟩, trivial⟩⟩⟩
def D145 (p0 : Int32) : Option (Int32) := (D144 p0 (nI 0) (nI 9)).bind fun (x1 : Int32) => (gB x1).bind fun (b2 : Int32) => some b2
set_option maxRecDepth 20000 in
theorem w_145 {X : Nat × (Nat → Int32)} {d : Nat} {m : dM} {p0 : Int32} {r : Int32} (hD : D145 p0 = some r) : ax_Ev X (d + 2) 145 [.int p0] (stt m) (.inl (some (.int r))) (stt m) := by
  unfold D145 at hD
  show ax_Wp X (d + 1 + 1) 145 (0, [some (.int p0)], []) (stt m) _
  refine ax_Wp.go (f' := (4, [some (.int p0)], [.int (nI 9), .int (nI 0), .int p0])) 3 rfl ?_
  refine bnd hD (fun x1 hx hD => ?_)
  refine ax_Wp.callE (f' := (7, [some (.int p0)], [])) rfl rfl (w_144 (d := d + 0) hx) rfl ?_
  refine ax_Wp.retB hD rfl (fun b2 hD => ?_)
  obtain rfl := inj hD
  exact ⟨rfl, rfl⟩
def D143 (m : dM) (p0 : Int32) : Option (Int32 × dM) := (fI m 130 7 p0).bind fun (m1 : dM) => some (nI 0, m1)
set_option maxRecDepth 20000 in
theorem w_143 {X : Nat × (Nat → Int32)} {d : Nat} {m : dM} {p0 : Int32} {r : Int32 × dM} (hD : D143 m p0 = some r) : ax_Ev X (d + 1) 143 [.ref 130, .int p0] (stt m) (.inl (some (.int r.1))) (stt r.2) := by
  unfold D143 at hD
  show ax_Wp X (d + 0 + 1) 143 (0, [some (.ref 130), some (.int p0)], []) (stt m) _
  refine ax_Wp.go (f' := (2, [some (.ref 130), some (.int p0)], [.int p0, .ref 130])) 2 rfl ?_
  refine ax_Wp.ptI hD rfl rfl rfl (fun m1 hD => ?_)
  refine ax_Wp.go (f' := (6, [some (.ref 130), some (.int p0)], [.int (nI 0)])) 1 rfl ?_
  obtain rfl := inj hD
  exact ax_Wp.ret rfl ⟨rfl, rfl⟩
def D149 (m : dM) : Option (dM) := Option.bind ((if (rI m 130 2) = (nI 5) then Option.bind (lp (β := dM) 3000 (fun (s2 : Int32 × dM) => if (nI 1196) ≤ s2.1 then some (.inr s2.2) else (gI s2.2 132 1495 ((nI 299) + s2.1)).bind fun (x4 : Int32) => (sI s2.2 132 1495 s2.1 x4).bind fun (m5 : dM) => some (.inl (s2.1 + (nI 1), m5))) (nI 0, m)) fun (v3 : dM) => (fI v3 130 2 ((rI v3 130 2) - (nI 1))).bind fun (m6 : dM) => some m6 else some m) : Option (dM)) fun (v1 : dM) => Option.bind (lp (β := dM) 3000 (fun (s7 : Int32 × dM) => if (nI 299) ≤ s7.1 then some (.inr s7.2) else (gI s7.2 131 299 s7.1).bind fun (x9 : Int32) => (sI s7.2 132 1495 (((nI 299) * (rI s7.2 130 2)) + s7.1) x9).bind fun (m10 : dM) => some (.inl (s7.1 + (nI 1), m10))) (nI 0, v1)) fun (v8 : dM) => (fI v8 130 2 ((rI v8 130 2) + (nI 1))).bind fun (m11 : dM) => some m11
set_option maxRecDepth 20000 in
theorem w_149 {X : Nat × (Nat → Int32)} {d : Nat} {m : dM} {r : dM} (hD : D149 m = some r) : ax_Ev X (d + 1) 149 [.ref 130] (stt m) (.inl none) (stt r) := by
  unfold D149 at hD
  show ax_Wp X (d + 0 + 1) 149 (0, [some (.ref 130), none], []) (stt m) _
  refine ax_Wp.go (f' := (5, [some (.ref 130), none], [.int (nI 5), .int (rI m 130 2)])) 3 rfl ?_
  refine bnd hD (fun v1 hx hD => ?_)
  refine ax_Wp.jn (F := (49, [some (.ref 130), none], [])) (hh := stt v1) ?_ (fun kkv1 => ?_)
  · refine ax_Wp.go (f' := (51, [some (.ref 130), some (.int (nI 0))], [])) 2 rfl ?_
    refine bnd hD (fun v8 hx hD => ?_)
    refine ax_Wp.jn (F := (85, [some (.ref 130), none], [])) (hh := stt v8) ?_ (fun kkv8 => ?_)
    · refine ax_Wp.go (f' := (92, [some (.ref 130), none], [.int ((rI v8 130 2) + (nI 1)), .ref 130])) 5 rfl ?_
      refine ax_Wp.ptI hD rfl rfl rfl (fun m11 hD => ?_)
      obtain rfl := inj hD
      exact ax_Wp.ret rfl ⟨rfl, rfl⟩
    clear hD
    refine ax_Wp.lpD (fun (s7 : Int32 × dM) => ((51, [some (.ref 130), some (.int s7.1)], []), stt s7.2)) ?_ hx
    clear hx
    intro s7 v hD ks7
    refine ax_Wp.go (f' := (55, [some (.ref 130), some (.int s7.1)], [.int (nI 299), .int s7.1])) 2 rfl ?_
    refine ax_Wp.brD hD rfl (fun _ hD => ?_) (fun _ hD => ?_)
    · obtain rfl := inj hD
      obtain rfl := ks7.o
      exact ax_Wp.dead kkv8 ⟨.inl rfl, ⟨.inr ⟨rfl, trivial⟩, trivial⟩⟩
    · refine ax_Wp.go (f' := (77, [some (.ref 130), some (.int s7.1)], [.int s7.1, .ref 131, .int (((nI 299) * (rI s7.2 130 2)) + s7.1), .ref 132])) 11 rfl ?_
      refine ax_Wp.rdI hD rfl rfl rfl (fun x9 hD => ?_)
      refine ax_Wp.wrI hD rfl rfl (fun _ => rfl) (fun m10 hD => ?_)
      refine ax_Wp.go (f' := (51, [some (.ref 130), some (.int (s7.1 + (nI 1)))], [])) 2 rfl ?_
      obtain rfl := inj hD
      exact ks7.i
  clear hD
  have hD := hx
  clear hx
  refine ax_Wp.brD hD rfl (fun _ hD => ?_) (fun _ hD => ?_)
  · refine ax_Wp.go (f' := (10, [some (.ref 130), some (.int (nI 0))], [])) 2 rfl ?_
    refine bnd hD (fun v3 hx hD => ?_)
    refine ax_Wp.jn (F := (39, [some (.ref 130), none], [])) (hh := stt v3) ?_ (fun kkv3 => ?_)
    · refine ax_Wp.go (f' := (46, [some (.ref 130), none], [.int ((rI v3 130 2) - (nI 1)), .ref 130])) 5 rfl ?_
      refine ax_Wp.ptI hD rfl rfl rfl (fun m6 hD => ?_)
      obtain rfl := inj hD
      exact kkv1
    clear hD
    refine ax_Wp.lpD (fun (s2 : Int32 × dM) => ((10, [some (.ref 130), some (.int s2.1)], []), stt s2.2)) ?_ hx
    clear hx
    intro s2 v hD ks2
    refine ax_Wp.go (f' := (14, [some (.ref 130), some (.int s2.1)], [.int (nI 1196), .int s2.1])) 2 rfl ?_
    refine ax_Wp.brD hD rfl (fun _ hD => ?_) (fun _ hD => ?_)
    · obtain rfl := inj hD
      obtain rfl := ks2.o
      exact ax_Wp.dead kkv3 ⟨.inl rfl, ⟨.inr ⟨rfl, trivial⟩, trivial⟩⟩
    · refine ax_Wp.go (f' := (31, [some (.ref 130), some (.int s2.1)], [.int ((nI 299) + s2.1), .ref 132, .int s2.1, .ref 132])) 8 rfl ?_
      refine ax_Wp.rdI hD rfl rfl rfl (fun x4 hD => ?_)
      refine ax_Wp.wrI hD rfl rfl (fun _ => rfl) (fun m5 hD => ?_)
      refine ax_Wp.go (f' := (10, [some (.ref 130), some (.int (s2.1 + (nI 1)))], [])) 2 rfl ?_
      obtain rfl := inj hD
      exact ks2.i
  · obtain rfl := inj hD
    exact kkv1
def D154 (m : dM) (p0 : Int32) : Option (Int32) := (gI m 131 299 ((nI 1) + ((nI 4) * p0))).bind fun (x1 : Int32) => some x1
set_option maxRecDepth 20000 in
theorem w_154 {X : Nat × (Nat → Int32)} {d : Nat} {m : dM} {p0 : Int32} {r : Int32} (hD : D154 m p0 = some r) : ax_Ev X (d + 1) 154 [.ref 130, .int p0] (stt m) (.inl (some (.int r))) (stt m) := by
  unfold D154 at hD
  show ax_Wp X (d + 0 + 1) 154 (0, [some (.ref 130), some (.int p0)], []) (stt m) _
  refine ax_Wp.go (f' := (9, [some (.ref 130), some (.int p0)], [.int ((nI 1) + ((nI 4) * p0)), .ref 131])) 7 rfl ?_
  refine ax_Wp.rdI hD rfl rfl rfl (fun x1 hD => ?_)
  obtain rfl := inj hD
  exact ax_Wp.ret rfl ⟨rfl, rfl⟩
def D155 (m : dM) (p0 : Int32) : Option (Int32) := (gI m 131 299 (((nI 1) + ((nI 4) * p0)) + (nI 1))).bind fun (x1 : Int32) => some x1
set_option maxRecDepth 20000 in
theorem w_155 {X : Nat × (Nat → Int32)} {d : Nat} {m : dM} {p0 : Int32} {r : Int32} (hD : D155 m p0 = some r) : ax_Ev X (d + 1) 155 [.ref 130, .int p0] (stt m) (.inl (some (.int r))) (stt m) := by
  unfold D155 at hD
  show ax_Wp X (d + 0 + 1) 155 (0, [some (.ref 130), some (.int p0)], []) (stt m) _
  refine ax_Wp.go (f' := (11, [some (.ref 130), some (.int p0)], [.int (((nI 1) + ((nI 4) * p0)) + (nI 1)), .ref 131])) 9 rfl ?_
  refine ax_Wp.rdI hD rfl rfl rfl (fun x1 hD => ?_)
  obtain rfl := inj hD
  exact ax_Wp.ret rfl ⟨rfl, rfl⟩
def D178 (m : dM) (p0 : Int32) (p1 : Int32) (p2 : Int32) : Option (Int32 × dM) := (fI m 130 7 (nI 0)).bind fun (m1 : dM) => (D145 p0).bind fun (x2 : Int32) => if x2 = (nI 0) then (D143 m1 (nI 1)).bind fun (r3 : Int32 × dM) => some (r3.1, r3.2) else (D145 p1).bind fun (x4 : Int32) => if x4 = (nI 0) then (D143 m1 (nI 1)).bind fun (r5 : Int32 × dM) => some (r5.1, r5.2) else if p0 = p1 then (D143 m1 (nI 2)).bind fun (r6 : Int32 × dM) => some (r6.1, r6.2) else Option.bind ((if (nI 24) ≤ (rI m1 131 0) then some (nI 0) else some (nI 1)) : Option (Int32)) fun (v7 : Int32) => Option.bind (lp (β := Int32) 3000 (fun (s8 : Int32 × Int32) => if (rI m1 131 0) ≤ s8.2 then some (.inr s8.1) else Option.bind ((if s8.1 = (nI 0) then some (nI 0) else (D154 m1 s8.2).bind fun (x11 : Int32) => if x11 = p0 then (D155 m1 s8.2).bind fun (x12 : Int32) => if x12 = p1 then some (nI 0) else some (nI 1) else some (nI 1)) : Option (Int32)) fun (v10 : Int32) => some (.inl (v10, s8.2 + (nI 1)))) (v7, nI 0)) fun (v9 : Int32) => if v9 = (nI 0) then (D143 m1 (nI 3)).bind fun (r13 : Int32 × dM) => some (r13.1, r13.2) else (D149 m1).bind fun (r14 : dM) => (sI r14 131 299 ((nI 1) + ((nI 4) * (rI r14 131 0))) p0).bind fun (m15 : dM) => (sI m15 131 299 (((nI 1) + ((nI 4) * (rI r14 131 0))) + (nI 1)) p1).bind fun (m16 : dM) => Option.bind ((if p2 = (nI 0) then some (nI 0) else some (nI 1)) : Option (Int32)) fun (v17 : Int32) => (sI m16 131 299 (((nI 1) + ((nI 4) * (rI r14 131 0))) + (nI 2)) v17).bind fun (m18 : dM) => (sI m18 131 299 (((nI 1) + ((nI 4) * (rI r14 131 0))) + (nI 3)) (nI 1)).bind fun (m19 : dM) => (sI m19 131 299 (nI 0) ((rI m19 131 0) + (nI 1))).bind fun (m20 : dM) => some ((rI m20 131 0) - (nI 1), m20)
set_option maxRecDepth 20000 in
theorem w_178 {X : Nat × (Nat → Int32)} {d : Nat} {m : dM} {p0 : Int32} {p1 : Int32} {p2 : Int32} {r : Int32 × dM} (hD : D178 m p0 p1 p2 = some r) : ax_Ev X (d + 3) 178 [.ref 130, .int p0, .int p1, .int p2] (stt m) (.inl (some (.int r.1))) (stt r.2) := by
  unfold D178 at hD
  show ax_Wp X (d + 2 + 1) 178 (0, [some (.ref 130), some (.int p0), some (.int p1), some (.int p2), none, none], []) (stt m) _
  refine ax_Wp.go (f' := (2, [some (.ref 130), some (.int p0), some (.int p1), some (.int p2), none, none], [.int (nI 0), .ref 130])) 2 rfl ?_
  refine ax_Wp.ptI hD rfl rfl rfl (fun m1 hD => ?_)
  refine ax_Wp.go (f' := (6, [some (.ref 130), some (.int p0), some (.int p1), some (.int p2), none, none], [.int p0])) 1 rfl ?_
  refine bnd hD (fun x2 hx hD => ?_)
  refine ax_Wp.callE (f' := (9, [some (.ref 130), some (.int p0), some (.int p1), some (.int p2), none, none], [])) rfl rfl (w_145 (d := d + 0) hx) rfl ?_
  refine ax_Wp.brD hD rfl (fun _ hD => ?_) (fun _ hD => ?_)
  · refine ax_Wp.go (f' := (21, [some (.ref 130), some (.int p0), some (.int p1), some (.int p2), none, none], [.int (nI 1), .ref 130])) 2 rfl ?_
    refine bnd hD (fun r3 hx hD => ?_)
    refine ax_Wp.callE (f' := (24, [some (.ref 130), some (.int p0), some (.int p1), some (.int p2), none, none], [])) rfl rfl (w_143 (d := d + 1) hx) rfl ?_
    obtain rfl := inj hD
    exact ax_Wp.ret rfl ⟨rfl, rfl⟩
  · refine ax_Wp.go (f' := (13, [some (.ref 130), some (.int p0), some (.int p1), some (.int p2), none, none], [.int p1])) 1 rfl ?_
    refine bnd hD (fun x4 hx hD => ?_)
    refine ax_Wp.callE (f' := (16, [some (.ref 130), some (.int p0), some (.int p1), some (.int p2), none, none], [])) rfl rfl (w_145 (d := d + 0) hx) rfl ?_
    refine ax_Wp.brD hD rfl (fun _ hD => ?_) (fun _ hD => ?_)
    · refine ax_Wp.go (f' := (21, [some (.ref 130), some (.int p0), some (.int p1), some (.int p2), none, none], [.int (nI 1), .ref 130])) 2 rfl ?_
      refine bnd hD (fun r5 hx hD => ?_)
      refine ax_Wp.callE (f' := (24, [some (.ref 130), some (.int p0), some (.int p1), some (.int p2), none, none], [])) rfl rfl (w_143 (d := d + 1) hx) rfl ?_
      obtain rfl := inj hD
      exact ax_Wp.ret rfl ⟨rfl, rfl⟩
    · refine ax_Wp.go (f' := (27, [some (.ref 130), some (.int p0), some (.int p1), some (.int p2), none, none], [.int p1, .int p0])) 2 rfl ?_
      refine ax_Wp.brD hD rfl (fun _ hD => ?_) (fun _ hD => ?_)
      · refine ax_Wp.go (f' := (32, [some (.ref 130), some (.int p0), some (.int p1), some (.int p2), none, none], [.int (nI 2), .ref 130])) 2 rfl ?_
        refine bnd hD (fun r6 hx hD => ?_)
        refine ax_Wp.callE (f' := (35, [some (.ref 130), some (.int p0), some (.int p1), some (.int p2), none, none], [])) rfl rfl (w_143 (d := d + 1) hx) rfl ?_
        obtain rfl := inj hD
        exact ax_Wp.ret rfl ⟨rfl, rfl⟩
      · refine ax_Wp.go (f' := (44, [some (.ref 130), some (.int p0), some (.int p1), some (.int p2), none, none], [.int (nI 24), .int (rI m1 131 0)])) 5 rfl ?_
        refine bnd hD (fun v7 hx hD => ?_)
        refine ax_Wp.jn (F := (52, [some (.ref 130), some (.int p0), some (.int p1), some (.int p2), none, none], [.int v7])) (hh := stt m1) ?_ (fun kkv7 => ?_)
        · refine ax_Wp.go (f' := (57, [some (.ref 130), some (.int p0), some (.int p1), some (.int p2), some (.int v7), some (.int (nI 0))], [])) 3 rfl ?_
          refine bnd hD (fun v9 hx hD => ?_)
          refine ax_Wp.jn (F := (106, [some (.ref 130), some (.int p0), some (.int p1), some (.int p2), some (.int v9), none], [])) (hh := stt m1) ?_ (fun kkv9 => ?_)
          · refine ax_Wp.go (f' := (108, [some (.ref 130), some (.int p0), some (.int p1), some (.int p2), some (.int v9), none], [.int v9])) 1 rfl ?_
            refine ax_Wp.brD hD rfl (fun _ hD => ?_) (fun _ hD => ?_)
            · refine ax_Wp.go (f' := (113, [some (.ref 130), some (.int p0), some (.int p1), some (.int p2), some (.int v9), none], [.int (nI 3), .ref 130])) 2 rfl ?_
              refine bnd hD (fun r13 hx hD => ?_)
              refine ax_Wp.callE (f' := (116, [some (.ref 130), some (.int p0), some (.int p1), some (.int p2), some (.int v9), none], [])) rfl rfl (w_143 (d := d + 1) hx) rfl ?_
              obtain rfl := inj hD
              exact ax_Wp.ret rfl ⟨rfl, rfl⟩
            · refine ax_Wp.go (f' := (118, [some (.ref 130), some (.int p0), some (.int p1), some (.int p2), some (.int v9), none], [.ref 130])) 1 rfl ?_
              refine bnd hD (fun r14 hx hD => ?_)
              refine ax_Wp.callE (f' := (121, [some (.ref 130), some (.int p0), some (.int p1), some (.int p2), some (.int v9), none], [])) rfl rfl (w_149 (d := d + 1) hx) rfl ?_
              refine ax_Wp.go (f' := (140, [some (.ref 130), some (.int p0), some (.int p1), some (.int p2), some (.int v9), some (.int ((nI 1) + ((nI 4) * (rI r14 131 0))))], [.int p0, .int ((nI 1) + ((nI 4) * (rI r14 131 0))), .ref 131])) 13 rfl ?_
              refine ax_Wp.wrI hD rfl rfl (fun _ => rfl) (fun m15 hD => ?_)
              refine ax_Wp.go (f' := (150, [some (.ref 130), some (.int p0), some (.int p1), some (.int p2), some (.int v9), some (.int ((nI 1) + ((nI 4) * (rI r14 131 0))))], [.int p1, .int (((nI 1) + ((nI 4) * (rI r14 131 0))) + (nI 1)), .ref 131])) 6 rfl ?_
              refine ax_Wp.wrI hD rfl rfl (fun _ => rfl) (fun m16 hD => ?_)
              refine ax_Wp.go (f' := (160, [some (.ref 130), some (.int p0), some (.int p1), some (.int p2), some (.int v9), some (.int ((nI 1) + ((nI 4) * (rI r14 131 0))))], [.int p2, .int (((nI 1) + ((nI 4) * (rI r14 131 0))) + (nI 2)), .ref 131])) 6 rfl ?_
              refine bnd hD (fun v17 hx hD => ?_)
              refine ax_Wp.jn (F := (168, [some (.ref 130), none, none, none, none, some (.int ((nI 1) + ((nI 4) * (rI r14 131 0))))], [.int v17, .int (((nI 1) + ((nI 4) * (rI r14 131 0))) + (nI 2)), .ref 131])) (hh := stt m16) ?_ (fun kkv17 => ?_)
              · refine ax_Wp.wrI hD rfl rfl (fun _ => rfl) (fun m18 hD => ?_)
                refine ax_Wp.go (f' := (178, [some (.ref 130), none, none, none, none, some (.int ((nI 1) + ((nI 4) * (rI r14 131 0))))], [.int (nI 1), .int (((nI 1) + ((nI 4) * (rI r14 131 0))) + (nI 3)), .ref 131])) 6 rfl ?_
                refine ax_Wp.wrI hD rfl rfl (fun _ => rfl) (fun m19 hD => ?_)
                refine ax_Wp.go (f' := (188, [some (.ref 130), none, none, none, none, some (.int ((nI 1) + ((nI 4) * (rI r14 131 0))))], [.int ((rI m19 131 0) + (nI 1)), .int (nI 0), .ref 131])) 7 rfl ?_
                refine ax_Wp.wrI hD rfl rfl (fun _ => rfl) (fun m20 hD => ?_)
                refine ax_Wp.go (f' := (197, [some (.ref 130), none, none, none, none, some (.int ((nI 1) + ((nI 4) * (rI r14 131 0))))], [.int ((rI m20 131 0) - (nI 1))])) 6 rfl ?_
                obtain rfl := inj hD
                exact ax_Wp.ret rfl ⟨rfl, rfl⟩
              clear hD
              have hD := hx
              clear hx
              refine ax_Wp.brD hD rfl (fun _ hD => ?_) (fun _ hD => ?_)
              · refine ax_Wp.go (f' := (168, [some (.ref 130), some (.int p0), some (.int p1), some (.int p2), some (.int v9), some (.int ((nI 1) + ((nI 4) * (rI r14 131 0))))], [.int (nI 0), .int (((nI 1) + ((nI 4) * (rI r14 131 0))) + (nI 2)), .ref 131])) 1 rfl ?_
                obtain rfl := inj hD
                exact ax_Wp.dead kkv17 ⟨.inl rfl, ⟨.inr ⟨rfl, trivial⟩, ⟨.inr ⟨rfl, trivial⟩, ⟨.inr ⟨rfl, trivial⟩, ⟨.inr ⟨rfl, trivial⟩, ⟨.inl rfl, trivial⟩⟩⟩⟩⟩⟩
              · refine ax_Wp.go (f' := (168, [some (.ref 130), some (.int p0), some (.int p1), some (.int p2), some (.int v9), some (.int ((nI 1) + ((nI 4) * (rI r14 131 0))))], [.int (nI 1), .int (((nI 1) + ((nI 4) * (rI r14 131 0))) + (nI 2)), .ref 131])) 2 rfl ?_
                obtain rfl := inj hD
                exact ax_Wp.dead kkv17 ⟨.inl rfl, ⟨.inr ⟨rfl, trivial⟩, ⟨.inr ⟨rfl, trivial⟩, ⟨.inr ⟨rfl, trivial⟩, ⟨.inr ⟨rfl, trivial⟩, ⟨.inl rfl, trivial⟩⟩⟩⟩⟩⟩
          clear hD
          refine ax_Wp.lpD (fun (s8 : Int32 × Int32) => ((57, [some (.ref 130), some (.int p0), some (.int p1), some (.int p2), some (.int s8.1), some (.int s8.2)], []), stt m1)) ?_ hx
          clear hx
          intro s8 v hD ks8
          refine ax_Wp.go (f' := (65, [some (.ref 130), some (.int p0), some (.int p1), some (.int p2), some (.int s8.1), some (.int s8.2)], [.int (rI m1 131 0), .int s8.2])) 5 rfl ?_
          refine ax_Wp.brD hD rfl (fun _ hD => ?_) (fun _ hD => ?_)
          · obtain rfl := inj hD
            obtain rfl := ks8.o
            exact ax_Wp.dead kkv9 ⟨.inl rfl, ⟨.inl rfl, ⟨.inl rfl, ⟨.inl rfl, ⟨.inl rfl, ⟨.inr ⟨rfl, trivial⟩, trivial⟩⟩⟩⟩⟩⟩
          · refine ax_Wp.go (f' := (70, [some (.ref 130), some (.int p0), some (.int p1), some (.int p2), some (.int s8.1), some (.int s8.2)], [.int s8.1])) 1 rfl ?_
            refine bnd hD (fun v10 hx hD => ?_)
            refine ax_Wp.jn (F := (98, [some (.ref 130), some (.int p0), some (.int p1), some (.int p2), none, some (.int s8.2)], [.int v10])) (hh := stt m1) ?_ (fun kkv10 => ?_)
            · refine ax_Wp.go (f' := (57, [some (.ref 130), some (.int p0), some (.int p1), some (.int p2), some (.int v10), some (.int (s8.2 + (nI 1)))], [])) 3 rfl ?_
              obtain rfl := inj hD
              exact ks8.i
            clear hD
            have hD := hx
            clear hx
            refine ax_Wp.brD hD rfl (fun _ hD => ?_) (fun _ hD => ?_)
            · refine ax_Wp.go (f' := (98, [some (.ref 130), some (.int p0), some (.int p1), some (.int p2), some (.int s8.1), some (.int s8.2)], [.int (nI 0)])) 1 rfl ?_
              obtain rfl := inj hD
              exact ax_Wp.dead kkv10 ⟨.inl rfl, ⟨.inl rfl, ⟨.inl rfl, ⟨.inl rfl, ⟨.inr ⟨rfl, trivial⟩, ⟨.inl rfl, trivial⟩⟩⟩⟩⟩⟩
            · refine ax_Wp.go (f' := (76, [some (.ref 130), some (.int p0), some (.int p1), some (.int p2), some (.int s8.1), some (.int s8.2)], [.int s8.2, .ref 130])) 2 rfl ?_
              refine bnd hD (fun x11 hx hD => ?_)
              refine ax_Wp.callE (f' := (79, [some (.ref 130), some (.int p0), some (.int p1), some (.int p2), some (.int s8.1), some (.int s8.2)], [])) rfl rfl (w_154 (d := d + 1) hx) rfl ?_
              refine ax_Wp.go (f' := (80, [some (.ref 130), some (.int p0), some (.int p1), some (.int p2), some (.int s8.1), some (.int s8.2)], [.int p0, .int x11])) 1 rfl ?_
              refine ax_Wp.brD hD rfl (fun _ hD => ?_) (fun _ hD => ?_)
              · refine ax_Wp.go (f' := (86, [some (.ref 130), some (.int p0), some (.int p1), some (.int p2), some (.int s8.1), some (.int s8.2)], [.int s8.2, .ref 130])) 2 rfl ?_
                refine bnd hD (fun x12 hx hD => ?_)
                refine ax_Wp.callE (f' := (89, [some (.ref 130), some (.int p0), some (.int p1), some (.int p2), some (.int s8.1), some (.int s8.2)], [])) rfl rfl (w_155 (d := d + 1) hx) rfl ?_
                refine ax_Wp.go (f' := (90, [some (.ref 130), some (.int p0), some (.int p1), some (.int p2), some (.int s8.1), some (.int s8.2)], [.int p1, .int x12])) 1 rfl ?_
                refine ax_Wp.brD hD rfl (fun _ hD => ?_) (fun _ hD => ?_)
                · refine ax_Wp.go (f' := (98, [some (.ref 130), some (.int p0), some (.int p1), some (.int p2), some (.int s8.1), some (.int s8.2)], [.int (nI 0)])) 1 rfl ?_
                  obtain rfl := inj hD
                  exact ax_Wp.dead kkv10 ⟨.inl rfl, ⟨.inl rfl, ⟨.inl rfl, ⟨.inl rfl, ⟨.inr ⟨rfl, trivial⟩, ⟨.inl rfl, trivial⟩⟩⟩⟩⟩⟩
                · refine ax_Wp.go (f' := (98, [some (.ref 130), some (.int p0), some (.int p1), some (.int p2), some (.int s8.1), some (.int s8.2)], [.int (nI 1)])) 2 rfl ?_
                  obtain rfl := inj hD
                  exact ax_Wp.dead kkv10 ⟨.inl rfl, ⟨.inl rfl, ⟨.inl rfl, ⟨.inl rfl, ⟨.inr ⟨rfl, trivial⟩, ⟨.inl rfl, trivial⟩⟩⟩⟩⟩⟩
              · refine ax_Wp.go (f' := (98, [some (.ref 130), some (.int p0), some (.int p1), some (.int p2), some (.int s8.1), some (.int s8.2)], [.int (nI 1)])) 2 rfl ?_
                obtain rfl := inj hD
                exact ax_Wp.dead kkv10 ⟨.inl rfl, ⟨.inl rfl, ⟨.inl rfl, ⟨.inl rfl, ⟨.inr ⟨rfl, trivial⟩, ⟨.inl rfl, trivial⟩⟩⟩⟩⟩⟩
        clear hD
        have hD := hx
        clear hx
        refine ax_Wp.brD hD rfl (fun _ hD => ?_) (fun _ hD => ?_)
        · refine ax_Wp.go (f' := (52, [some (.ref 130), some (.int p0), some (.int p1), some (.int p2), none, none], [.int (nI 0)])) 1 rfl ?_
          obtain rfl := inj hD
          exact kkv7
        · refine ax_Wp.go (f' := (52, [some (.ref 130), some (.int p0), some (.int p1), some (.int p2), none, none], [.int (nI 1)])) 2 rfl ?_
          obtain rfl := inj hD
          exact kkv7
