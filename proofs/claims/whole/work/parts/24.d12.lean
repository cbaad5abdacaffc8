/-! WHAT METHODS DO, printed of their bytecode: 12 -/
def D193 (m : dM) (p0 : Int32) : Option (Int32 × dM) := (fI m 130 10 (nI 0)).bind fun (m1 : dM) => (fI m1 130 11 (nI 0)).bind fun (m2 : dM) => lp (β := Int32 × dM) 3000 (fun (s3 : Int32 × Int32 × dM) => if s3.2.1 = (nI 0) then some (.inr (s3.1, s3.2.2)) else (D192 s3.2.2 p0).bind fun (r4 : Int32 × dM) => if r4.1 = (nI 0) then (sI r4.2 131 299 (nI 172) (nI 1)).bind fun (m5 : dM) => (sI m5 131 299 (nI 173) s3.1).bind fun (m6 : dM) => some (.inr (s3.1, m6)) else Option.bind ((if (rI r4.2 130 11) = (nI 0) then if (rI r4.2 130 6) ≤ (rI r4.2 130 10) then some (nI 0) else some (nI 1) else some (nI 0)) : Option (Int32)) fun (v7 : Int32) => if v7 = (nI 0) then some (.inl (s3.1 + (nI 1), v7, r4.2)) else (D190 r4.2 (nI 59) (nI 59)).bind fun (r8 : Int32 × dM) => Option.bind ((if (rI r8.2 130 11) = (nI 0) then some (nI 1) else some (nI 0)) : Option (Int32)) fun (v9 : Int32) => some (.inl (s3.1 + (nI 1), v9, r8.2))) (nI 0, nI 1, m2)
set_option maxRecDepth 20000 in
theorem w_193 {X : Nat × (Nat → Int32)} {d : Nat} {m : dM} {p0 : Int32} {r : Int32 × dM} (hD : D193 m p0 = some r) : ax_Ev X (d + 7) 193 [.ref 130, .int p0] (stt m) (.inl (some (.int r.1))) (stt r.2) := by
  unfold D193 at hD
  show ax_Wp X (d + 6 + 1) 193 (0, [some (.ref 130), some (.int p0), none, none, none], []) (stt m) _
  refine ax_Wp.go (f' := (2, [some (.ref 130), some (.int p0), none, none, none], [.int (nI 0), .ref 130])) 2 rfl ?_
  refine ax_Wp.ptI hD rfl rfl rfl (fun m1 hD => ?_)
  refine ax_Wp.go (f' := (7, [some (.ref 130), some (.int p0), none, none, none], [.int (nI 0), .ref 130])) 2 rfl ?_
  refine ax_Wp.ptI hD rfl rfl rfl (fun m2 hD => ?_)
  refine ax_Wp.go (f' := (14, [some (.ref 130), some (.int p0), some (.int (nI 0)), some (.int (nI 1)), none], [])) 4 rfl ?_
  refine ax_Wp.lpD (fun (s3 : Int32 × Int32 × dM) => ((14, [some (.ref 130), some (.int p0), some (.int s3.1), some (.int s3.2.1), none], []), stt s3.2.2)) ?_ hD
  clear hD
  intro s3 v hD ks3
  refine ax_Wp.go (f' := (15, [some (.ref 130), some (.int p0), some (.int s3.1), some (.int s3.2.1), none], [.int s3.2.1])) 1 rfl ?_
  refine ax_Wp.brD hD rfl (fun _ hD => ?_) (fun _ hD => ?_)
  · refine ax_Wp.go (f' := (104, [some (.ref 130), some (.int p0), some (.int s3.1), some (.int s3.2.1), none], [.int s3.1])) 1 rfl ?_
    obtain rfl := inj hD
    obtain rfl := ks3.o
    exact ax_Wp.ret rfl ⟨rfl, rfl⟩
  · refine ax_Wp.go (f' := (20, [some (.ref 130), some (.int p0), some (.int s3.1), some (.int s3.2.1), none], [.int p0, .ref 130])) 2 rfl ?_
    refine bnd hD (fun r4 hx hD => ?_)
    refine ax_Wp.callE (f' := (23, [some (.ref 130), some (.int p0), some (.int s3.1), some (.int s3.2.1), none], [])) rfl rfl (w_192 (d := d + 0) hx) rfl ?_
    refine ax_Wp.brD hD rfl (fun _ hD => ?_) (fun _ hD => ?_)
    · refine ax_Wp.go (f' := (34, [some (.ref 130), some (.int p0), some (.int s3.1), some (.int s3.2.1), none], [.int (nI 1), .int (nI 172), .ref 131])) 4 rfl ?_
      refine ax_Wp.wrI hD rfl rfl (fun _ => rfl) (fun m5 hD => ?_)
      refine ax_Wp.go (f' := (43, [some (.ref 130), some (.int p0), some (.int s3.1), some (.int s3.2.1), none], [.int s3.1, .int (nI 173), .ref 131])) 4 rfl ?_
      refine ax_Wp.wrI hD rfl rfl (fun _ => rfl) (fun m6 hD => ?_)
      refine ax_Wp.go (f' := (45, [some (.ref 130), some (.int p0), some (.int s3.1), some (.int s3.2.1), none], [.int s3.1])) 1 rfl ?_
      obtain rfl := inj hD
      obtain rfl := ks3.o
      exact ax_Wp.ret rfl ⟨rfl, rfl⟩
    · refine ax_Wp.go (f' := (53, [some (.ref 130), some (.int p0), some (.int (s3.1 + (nI 1))), some (.int s3.2.1), none], [.int (rI r4.2 130 11)])) 3 rfl ?_
      refine bnd hD (fun v7 hx hD => ?_)
      refine ax_Wp.jn (F := (72, [some (.ref 130), some (.int p0), some (.int (s3.1 + (nI 1))), none, none], [.int v7])) (hh := stt r4.2) ?_ (fun kkv7 => ?_)
      · refine ax_Wp.go (f' := (74, [some (.ref 130), some (.int p0), some (.int (s3.1 + (nI 1))), some (.int v7), none], [.int v7])) 2 rfl ?_
        refine ax_Wp.brD hD rfl (fun _ hD => ?_) (fun _ hD => ?_)
        · obtain rfl := inj hD
          exact ks3.i
        · refine ax_Wp.go (f' := (82, [some (.ref 130), some (.int p0), some (.int (s3.1 + (nI 1))), some (.int v7), none], [.int (nI 59), .int (nI 59), .ref 130])) 3 rfl ?_
          refine bnd hD (fun r8 hx hD => ?_)
          refine ax_Wp.callE (f' := (85, [some (.ref 130), some (.int p0), some (.int (s3.1 + (nI 1))), some (.int v7), none], [])) rfl rfl (w_190 (d := d + 4) hx) rfl ?_
          refine ax_Wp.go (f' := (91, [some (.ref 130), some (.int p0), some (.int (s3.1 + (nI 1))), some (.int v7), some (.int r8.1)], [.int (rI r8.2 130 11)])) 3 rfl ?_
          refine bnd hD (fun v9 hx hD => ?_)
          refine ax_Wp.jn (F := (99, [some (.ref 130), some (.int p0), some (.int (s3.1 + (nI 1))), none, none], [.int v9])) (hh := stt r8.2) ?_ (fun kkv9 => ?_)
          · refine ax_Wp.go (f' := (14, [some (.ref 130), some (.int p0), some (.int (s3.1 + (nI 1))), some (.int v9), none], [])) 2 rfl ?_
            obtain rfl := inj hD
            exact ks3.i
          clear hD
          have hD := hx
          clear hx
          refine ax_Wp.brD hD rfl (fun _ hD => ?_) (fun _ hD => ?_)
          · refine ax_Wp.go (f' := (99, [some (.ref 130), some (.int p0), some (.int (s3.1 + (nI 1))), some (.int v7), some (.int r8.1)], [.int (nI 1)])) 2 rfl ?_
            obtain rfl := inj hD
            exact ax_Wp.dead kkv9 ⟨.inl rfl, ⟨.inl rfl, ⟨.inl rfl, ⟨.inr ⟨rfl, trivial⟩, ⟨.inr ⟨rfl, trivial⟩, trivial⟩⟩⟩⟩⟩
          · refine ax_Wp.go (f' := (99, [some (.ref 130), some (.int p0), some (.int (s3.1 + (nI 1))), some (.int v7), some (.int r8.1)], [.int (nI 0)])) 1 rfl ?_
            obtain rfl := inj hD
            exact ax_Wp.dead kkv9 ⟨.inl rfl, ⟨.inl rfl, ⟨.inl rfl, ⟨.inr ⟨rfl, trivial⟩, ⟨.inr ⟨rfl, trivial⟩, trivial⟩⟩⟩⟩⟩
      clear hD
      have hD := hx
      clear hx
      refine ax_Wp.brD hD rfl (fun _ hD => ?_) (fun _ hD => ?_)
      · refine ax_Wp.go (f' := (64, [some (.ref 130), some (.int p0), some (.int (s3.1 + (nI 1))), some (.int s3.2.1), none], [.int (rI r4.2 130 6), .int (rI r4.2 130 10)])) 4 rfl ?_
        refine ax_Wp.brD hD rfl (fun _ hD => ?_) (fun _ hD => ?_)
        · refine ax_Wp.go (f' := (72, [some (.ref 130), some (.int p0), some (.int (s3.1 + (nI 1))), some (.int s3.2.1), none], [.int (nI 0)])) 1 rfl ?_
          obtain rfl := inj hD
          exact ax_Wp.dead kkv7 ⟨.inl rfl, ⟨.inl rfl, ⟨.inl rfl, ⟨.inr ⟨rfl, trivial⟩, ⟨.inl rfl, trivial⟩⟩⟩⟩⟩
        · refine ax_Wp.go (f' := (72, [some (.ref 130), some (.int p0), some (.int (s3.1 + (nI 1))), some (.int s3.2.1), none], [.int (nI 1)])) 2 rfl ?_
          obtain rfl := inj hD
          exact ax_Wp.dead kkv7 ⟨.inl rfl, ⟨.inl rfl, ⟨.inl rfl, ⟨.inr ⟨rfl, trivial⟩, ⟨.inl rfl, trivial⟩⟩⟩⟩⟩
      · refine ax_Wp.go (f' := (72, [some (.ref 130), some (.int p0), some (.int (s3.1 + (nI 1))), some (.int s3.2.1), none], [.int (nI 0)])) 1 rfl ?_
        obtain rfl := inj hD
        exact ax_Wp.dead kkv7 ⟨.inl rfl, ⟨.inl rfl, ⟨.inl rfl, ⟨.inr ⟨rfl, trivial⟩, ⟨.inl rfl, trivial⟩⟩⟩⟩⟩
def D194 (m : dM) : Option (Int32 × dM) := (fI m 130 7 (nI 0)).bind fun (m1 : dM) => (D193 m1 (nI 0)).bind fun (r2 : Int32 × dM) => Option.bind ((if (rI r2.2 130 11) = (nI 0) then some (rI r2.2 130 6) else some (rI r2.2 130 10)) : Option (Int32)) fun (v3 : Int32) => some (v3, r2.2)
set_option maxRecDepth 20000 in
theorem w_194 {X : Nat × (Nat → Int32)} {d : Nat} {m : dM} {r : Int32 × dM} (hD : D194 m = some r) : ax_Ev X (d + 8) 194 [.ref 130] (stt m) (.inl (some (.int r.1))) (stt r.2) := by
  unfold D194 at hD
  show ax_Wp X (d + 7 + 1) 194 (0, [some (.ref 130), none], []) (stt m) _
  refine ax_Wp.go (f' := (2, [some (.ref 130), none], [.int (nI 0), .ref 130])) 2 rfl ?_
  refine ax_Wp.ptI hD rfl rfl rfl (fun m1 hD => ?_)
  refine ax_Wp.go (f' := (7, [some (.ref 130), none], [.int (nI 0), .ref 130])) 2 rfl ?_
  refine bnd hD (fun r2 hx hD => ?_)
  refine ax_Wp.callE (f' := (10, [some (.ref 130), none], [])) rfl rfl (w_193 (d := d + 0) hx) rfl ?_
  refine ax_Wp.go (f' := (15, [some (.ref 130), some (.int r2.1)], [.int (rI r2.2 130 11)])) 3 rfl ?_
  refine bnd hD (fun v3 hx hD => ?_)
  refine ax_Wp.jn (F := (29, [some (.ref 130), none], [.int v3])) (hh := stt r2.2) ?_ (fun kkv3 => ?_)
  · obtain rfl := inj hD
    exact ax_Wp.ret rfl ⟨rfl, rfl⟩
  clear hD
  have hD := hx
  clear hx
  refine ax_Wp.brD hD rfl (fun _ hD => ?_) (fun _ hD => ?_)
  · refine ax_Wp.go (f' := (29, [some (.ref 130), some (.int r2.1)], [.int (rI r2.2 130 6)])) 2 rfl ?_
    obtain rfl := inj hD
    exact ax_Wp.dead kkv3 ⟨.inl rfl, ⟨.inr ⟨rfl, trivial⟩, trivial⟩⟩
  · refine ax_Wp.go (f' := (29, [some (.ref 130), some (.int r2.1)], [.int (rI r2.2 130 10)])) 3 rfl ?_
    obtain rfl := inj hD
    exact ax_Wp.dead kkv3 ⟨.inl rfl, ⟨.inr ⟨rfl, trivial⟩, trivial⟩⟩
def D195 (m : dM) : Option (Int32 × dM) := (fI m 130 7 (nI 0)).bind fun (m1 : dM) => (D193 m1 (nI 0)).bind fun (r2 : Int32 × dM) => if (rI r2.2 130 11) = (nI 0) then (D149 r2.2).bind fun (r3 : dM) => (sI r3 131 299 (nI 172) (nI 0)).bind fun (m4 : dM) => (D193 m4 (nI 1)).bind fun (r5 : Int32 × dM) => (fI r5.2 130 6 (nI 0)).bind fun (m6 : dM) => some (r5.1, m6) else (D143 r2.2 (nI 1)).bind fun (r7 : Int32 × dM) => some (r7.1, r7.2)
set_option maxRecDepth 20000 in
theorem w_195 {X : Nat × (Nat → Int32)} {d : Nat} {m : dM} {r : Int32 × dM} (hD : D195 m = some r) : ax_Ev X (d + 8) 195 [.ref 130] (stt m) (.inl (some (.int r.1))) (stt r.2) := by
  unfold D195 at hD
  show ax_Wp X (d + 7 + 1) 195 (0, [some (.ref 130), none, none], []) (stt m) _
  refine ax_Wp.go (f' := (2, [some (.ref 130), none, none], [.int (nI 0), .ref 130])) 2 rfl ?_
  refine ax_Wp.ptI hD rfl rfl rfl (fun m1 hD => ?_)
  refine ax_Wp.go (f' := (7, [some (.ref 130), none, none], [.int (nI 0), .ref 130])) 2 rfl ?_
  refine bnd hD (fun r2 hx hD => ?_)
  refine ax_Wp.callE (f' := (10, [some (.ref 130), none, none], [])) rfl rfl (w_193 (d := d + 0) hx) rfl ?_
  refine ax_Wp.go (f' := (15, [some (.ref 130), some (.int r2.1), none], [.int (rI r2.2 130 11)])) 3 rfl ?_
  refine ax_Wp.brD hD rfl (fun _ hD => ?_) (fun _ hD => ?_)
  · refine ax_Wp.go (f' := (25, [some (.ref 130), some (.int r2.1), none], [.ref 130])) 1 rfl ?_
    refine bnd hD (fun r3 hx hD => ?_)
    refine ax_Wp.callE (f' := (28, [some (.ref 130), some (.int r2.1), none], [])) rfl rfl (w_149 (d := d + 6) hx) rfl ?_
    refine ax_Wp.go (f' := (36, [some (.ref 130), some (.int r2.1), none], [.int (nI 0), .int (nI 172), .ref 131])) 4 rfl ?_
    refine ax_Wp.wrI hD rfl rfl (fun _ => rfl) (fun m4 hD => ?_)
    refine ax_Wp.go (f' := (39, [some (.ref 130), some (.int r2.1), none], [.int (nI 1), .ref 130])) 2 rfl ?_
    refine bnd hD (fun r5 hx hD => ?_)
    refine ax_Wp.callE (f' := (42, [some (.ref 130), some (.int r2.1), none], [])) rfl rfl (w_193 (d := d + 0) hx) rfl ?_
    refine ax_Wp.go (f' := (45, [some (.ref 130), some (.int r2.1), some (.int r5.1)], [.int (nI 0), .ref 130])) 3 rfl ?_
    refine ax_Wp.ptI hD rfl rfl rfl (fun m6 hD => ?_)
    refine ax_Wp.go (f' := (49, [some (.ref 130), some (.int r2.1), some (.int r5.1)], [.int r5.1])) 1 rfl ?_
    obtain rfl := inj hD
    exact ax_Wp.ret rfl ⟨rfl, rfl⟩
  · refine ax_Wp.go (f' := (20, [some (.ref 130), some (.int r2.1), none], [.int (nI 1), .ref 130])) 2 rfl ?_
    refine bnd hD (fun r7 hx hD => ?_)
    refine ax_Wp.callE (f' := (23, [some (.ref 130), some (.int r2.1), none], [])) rfl rfl (w_143 (d := d + 6) hx) rfl ?_
    obtain rfl := inj hD
    exact ax_Wp.ret rfl ⟨rfl, rfl⟩
def D84 (m : dM) : Option (Int32) := Option.bind ((if (rI m 1 9) = (-1) then some (nI 0) else some (nI 1)) : Option (Int32)) fun (v1 : Int32) => (gB v1).bind fun (b2 : Int32) => some b2
set_option maxRecDepth 20000 in
theorem w_84 {X : Nat × (Nat → Int32)} {d : Nat} {m : dM} {r : Int32} (hD : D84 m = some r) : ax_Ev X (d + 1) 84 [.ref 0] (stt m) (.inl (some (.int r))) (stt m) := by
  unfold D84 at hD
  show ax_Wp X (d + 0 + 1) 84 (0, [some (.ref 0)], []) (stt m) _
  refine ax_Wp.go (f' := (8, [some (.ref 0)], [.int (-1), .int (rI m 1 9)])) 4 rfl ?_
  refine bnd hD (fun v1 hx hD => ?_)
  refine ax_Wp.jn (F := (16, [some (.ref 0)], [.int v1])) (hh := stt m) ?_ (fun kkv1 => ?_)
  · refine ax_Wp.retB hD rfl (fun b2 hD => ?_)
    obtain rfl := inj hD
    exact ⟨rfl, rfl⟩
  clear hD
  have hD := hx
  clear hx
  refine ax_Wp.brD hD rfl (fun _ hD => ?_) (fun _ hD => ?_)
  · refine ax_Wp.go (f' := (16, [some (.ref 0)], [.int (nI 0)])) 1 rfl ?_
    obtain rfl := inj hD
    exact kkv1
  · refine ax_Wp.go (f' := (16, [some (.ref 0)], [.int (nI 1)])) 2 rfl ?_
    obtain rfl := inj hD
    exact kkv1
def D196 (m : dM) : Option (Int32 × dM) := (fI m 130 7 (nI 0)).bind fun (m1 : dM) => Option.bind ((if (rI m1 131 172) = (nI 1) then some (nI 1) else some (nI 0)) : Option (Int32)) fun (v2 : Int32) => (gB v2).bind fun (b3 : Int32) => some (b3, m1)
set_option maxRecDepth 20000 in
theorem w_196 {X : Nat × (Nat → Int32)} {d : Nat} {m : dM} {r : Int32 × dM} (hD : D196 m = some r) : ax_Ev X (d + 1) 196 [.ref 130] (stt m) (.inl (some (.int r.1))) (stt r.2) := by
  unfold D196 at hD
  show ax_Wp X (d + 0 + 1) 196 (0, [some (.ref 130)], []) (stt m) _
  refine ax_Wp.go (f' := (2, [some (.ref 130)], [.int (nI 0), .ref 130])) 2 rfl ?_
  refine ax_Wp.ptI hD rfl rfl rfl (fun m1 hD => ?_)
  refine ax_Wp.go (f' := (14, [some (.ref 130)], [.int (nI 1), .int (rI m1 131 172)])) 5 rfl ?_
  refine bnd hD (fun v2 hx hD => ?_)
  refine ax_Wp.jn (F := (22, [some (.ref 130)], [.int v2])) (hh := stt m1) ?_ (fun kkv2 => ?_)
  · refine ax_Wp.retB hD rfl (fun b3 hD => ?_)
    obtain rfl := inj hD
    exact ⟨rfl, rfl⟩
  clear hD
  have hD := hx
  clear hx
  refine ax_Wp.brD hD rfl (fun _ hD => ?_) (fun _ hD => ?_)
  · refine ax_Wp.go (f' := (22, [some (.ref 130)], [.int (nI 1)])) 2 rfl ?_
    obtain rfl := inj hD
    exact kkv2
  · refine ax_Wp.go (f' := (22, [some (.ref 130)], [.int (nI 0)])) 1 rfl ?_
    obtain rfl := inj hD
    exact kkv2
def D197 (m : dM) : Option (Int32 × dM) := (fI m 130 7 (nI 0)).bind fun (m1 : dM) => Option.bind ((if (rI m1 131 172) = (nI 1) then some (rI m1 131 173, m1) else (D143 m1 (nI 1)).bind fun (r3 : Int32 × dM) => some (r3.1, r3.2)) : Option (Int32 × dM)) fun (v2 : Int32 × dM) => some (v2.1, v2.2)
set_option maxRecDepth 20000 in
theorem w_197 {X : Nat × (Nat → Int32)} {d : Nat} {m : dM} {r : Int32 × dM} (hD : D197 m = some r) : ax_Ev X (d + 2) 197 [.ref 130] (stt m) (.inl (some (.int r.1))) (stt r.2) := by
  unfold D197 at hD
  show ax_Wp X (d + 1 + 1) 197 (0, [some (.ref 130)], []) (stt m) _
  refine ax_Wp.go (f' := (2, [some (.ref 130)], [.int (nI 0), .ref 130])) 2 rfl ?_
  refine ax_Wp.ptI hD rfl rfl rfl (fun m1 hD => ?_)
  refine ax_Wp.go (f' := (14, [some (.ref 130)], [.int (nI 1), .int (rI m1 131 172)])) 5 rfl ?_
  refine bnd hD (fun v2 hx hD => ?_)
  refine ax_Wp.jn (F := (33, [some (.ref 130)], [.int v2.1])) (hh := stt v2.2) ?_ (fun kkv2 => ?_)
  · obtain rfl := inj hD
    exact ax_Wp.ret rfl ⟨rfl, rfl⟩
  clear hD
  have hD := hx
  clear hx
  refine ax_Wp.brD hD rfl (fun _ hD => ?_) (fun _ hD => ?_)
  · refine ax_Wp.go (f' := (33, [some (.ref 130)], [.int (rI m1 131 173)])) 5 rfl ?_
    obtain rfl := inj hD
    exact kkv2
  · refine ax_Wp.go (f' := (30, [some (.ref 130)], [.int (nI 1), .ref 130])) 2 rfl ?_
    refine bnd hD (fun r3 hx hD => ?_)
    refine ax_Wp.callE (f' := (33, [some (.ref 130)], [])) rfl rfl (w_143 (d := d + 0) hx) rfl ?_
    obtain rfl := inj hD
    exact kkv2
def D198 (m : dM) : Option (Int32 × dM) := (fI m 130 7 (nI 0)).bind fun (m1 : dM) => if (rI m1 130 2) = (nI 0) then (D143 m1 (nI 1)).bind fun (r2 : Int32 × dM) => some (r2.1, r2.2) else (fI m1 130 2 ((rI m1 130 2) - (nI 1))).bind fun (m3 : dM) => Option.bind (lp (β := dM) 3000 (fun (s4 : Int32 × dM) => if (nI 299) ≤ s4.1 then some (.inr s4.2) else (gI s4.2 132 1495 (((nI 299) * (rI s4.2 130 2)) + s4.1)).bind fun (x6 : Int32) => (sI s4.2 131 299 s4.1 x6).bind fun (m7 : dM) => some (.inl (s4.1 + (nI 1), m7))) (nI 0, m3)) fun (v5 : dM) => some (rI v5 130 2, v5)
set_option maxRecDepth 20000 in
theorem w_198 {X : Nat × (Nat → Int32)} {d : Nat} {m : dM} {r : Int32 × dM} (hD : D198 m = some r) : ax_Ev X (d + 2) 198 [.ref 130] (stt m) (.inl (some (.int r.1))) (stt r.2) := by
  unfold D198 at hD
  show ax_Wp X (d + 1 + 1) 198 (0, [some (.ref 130), none], []) (stt m) _
  refine ax_Wp.go (f' := (2, [some (.ref 130), none], [.int (nI 0), .ref 130])) 2 rfl ?_
  refine ax_Wp.ptI hD rfl rfl rfl (fun m1 hD => ?_)
  refine ax_Wp.go (f' := (9, [some (.ref 130), none], [.int (rI m1 130 2)])) 2 rfl ?_
  refine ax_Wp.brD hD rfl (fun _ hD => ?_) (fun _ hD => ?_)
  · refine ax_Wp.go (f' := (14, [some (.ref 130), none], [.int (nI 1), .ref 130])) 2 rfl ?_
    refine bnd hD (fun r2 hx hD => ?_)
    refine ax_Wp.callE (f' := (17, [some (.ref 130), none], [])) rfl rfl (w_143 (d := d + 0) hx) rfl ?_
    obtain rfl := inj hD
    exact ax_Wp.ret rfl ⟨rfl, rfl⟩
  · refine ax_Wp.go (f' := (25, [some (.ref 130), none], [.int ((rI m1 130 2) - (nI 1)), .ref 130])) 5 rfl ?_
    refine ax_Wp.ptI hD rfl rfl rfl (fun m3 hD => ?_)
    refine ax_Wp.go (f' := (30, [some (.ref 130), some (.int (nI 0))], [])) 2 rfl ?_
    refine bnd hD (fun v5 hx hD => ?_)
    refine ax_Wp.jn (F := (64, [some (.ref 130), none], [])) (hh := stt v5) ?_ (fun kkv5 => ?_)
    · refine ax_Wp.go (f' := (68, [some (.ref 130), none], [.int (rI v5 130 2)])) 2 rfl ?_
      obtain rfl := inj hD
      exact ax_Wp.ret rfl ⟨rfl, rfl⟩
    clear hD
    refine ax_Wp.lpD (fun (s4 : Int32 × dM) => ((30, [some (.ref 130), some (.int s4.1)], []), stt s4.2)) ?_ hx
    clear hx
    intro s4 v hD ks4
    refine ax_Wp.go (f' := (34, [some (.ref 130), some (.int s4.1)], [.int (nI 299), .int s4.1])) 2 rfl ?_
    refine ax_Wp.brD hD rfl (fun _ hD => ?_) (fun _ hD => ?_)
    · obtain rfl := inj hD
      obtain rfl := ks4.o
      exact ax_Wp.dead kkv5 ⟨.inl rfl, ⟨.inr ⟨rfl, trivial⟩, trivial⟩⟩
    · refine ax_Wp.go (f' := (56, [some (.ref 130), some (.int s4.1)], [.int (((nI 299) * (rI s4.2 130 2)) + s4.1), .ref 132, .int s4.1, .ref 131])) 11 rfl ?_
      refine ax_Wp.rdI hD rfl rfl rfl (fun x6 hD => ?_)
      refine ax_Wp.wrI hD rfl rfl (fun _ => rfl) (fun m7 hD => ?_)
      refine ax_Wp.go (f' := (30, [some (.ref 130), some (.int (s4.1 + (nI 1)))], [])) 2 rfl ?_
      obtain rfl := inj hD
      exact ks4.i
def D58_20_2 (m : dM) : Option (dM) := (kI m 3 21 24).bind fun (m1 : dM) => (kI m1 4 22 24).bind fun (m2 : dM) => (fI m2 20 2 (rI m2 2 2)).bind fun (m3 : dM) => (fI m3 20 3 (rI m3 2 3)).bind fun (m4 : dM) => (fI m4 20 4 (rI m4 2 4)).bind fun (m5 : dM) => some m5
set_option maxRecDepth 20000 in
theorem w_58_20_2 {X : Nat × (Nat → Int32)} {d : Nat} {m : dM} {r : dM} (hD : D58_20_2 m = some r) : ax_Ev X (d + 1) 58 [.ref 20, .ref 2] (stt m) (.inl none) (stt r) := by
  unfold D58_20_2 at hD
  show ax_Wp X (d + 0 + 1) 58 (0, [some (.ref 20), some (.ref 2)], []) (stt m) _
  refine ax_Wp.go (f' := (12, [some (.ref 20), some (.ref 2)], [.int (nI 24), .int (nI 0), .ref 21, .int (nI 0), .ref 3])) 7 rfl ?_
  refine ax_Wp.cpI (S' := []) hD rfl rfl (fun _ => rfl) (fun m1 hD => ?_)
  refine ax_Wp.go (f' := (27, [some (.ref 20), some (.ref 2)], [.int (nI 24), .int (nI 0), .ref 22, .int (nI 0), .ref 4])) 7 rfl ?_
  refine ax_Wp.cpI (S' := []) hD rfl rfl (fun _ => rfl) (fun m2 hD => ?_)
  refine ax_Wp.go (f' := (35, [some (.ref 20), some (.ref 2)], [.int (rI m2 2 2), .ref 20])) 3 rfl ?_
  refine ax_Wp.ptI hD rfl rfl rfl (fun m3 hD => ?_)
  refine ax_Wp.go (f' := (43, [some (.ref 20), some (.ref 2)], [.int (rI m3 2 3), .ref 20])) 3 rfl ?_
  refine ax_Wp.ptI hD rfl rfl rfl (fun m4 hD => ?_)
  refine ax_Wp.go (f' := (51, [some (.ref 20), some (.ref 2)], [.int (rI m4 2 4), .ref 20])) 3 rfl ?_
  refine ax_Wp.ptI hD rfl rfl rfl (fun m5 hD => ?_)
  obtain rfl := inj hD
  exact ax_Wp.ret rfl ⟨rfl, rfl⟩
def D1_23_5 (m : dM) : Option (dM) := (kI m 6 24 4).bind fun (m1 : dM) => (kI m1 7 25 4).bind fun (m2 : dM) => (kI m2 8 26 4).bind fun (m3 : dM) => (kI m3 9 27 4).bind fun (m4 : dM) => (fI m4 23 4 (rI m4 5 4)).bind fun (m5 : dM) => some m5
set_option maxRecDepth 20000 in
theorem w_1_23_5 {X : Nat × (Nat → Int32)} {d : Nat} {m : dM} {r : dM} (hD : D1_23_5 m = some r) : ax_Ev X (d + 1) 1 [.ref 23, .ref 5] (stt m) (.inl none) (stt r) := by
  unfold D1_23_5 at hD
  show ax_Wp X (d + 0 + 1) 1 (0, [some (.ref 23), some (.ref 5)], []) (stt m) _
  refine ax_Wp.go (f' := (11, [some (.ref 23), some (.ref 5)], [.int (nI 4), .int (nI 0), .ref 24, .int (nI 0), .ref 6])) 7 rfl ?_
  refine ax_Wp.cpI (S' := []) hD rfl rfl (fun _ => rfl) (fun m1 hD => ?_)
  refine ax_Wp.go (f' := (25, [some (.ref 23), some (.ref 5)], [.int (nI 4), .int (nI 0), .ref 25, .int (nI 0), .ref 7])) 7 rfl ?_
  refine ax_Wp.cpI (S' := []) hD rfl rfl (fun _ => rfl) (fun m2 hD => ?_)
  refine ax_Wp.go (f' := (39, [some (.ref 23), some (.ref 5)], [.int (nI 4), .int (nI 0), .ref 26, .int (nI 0), .ref 8])) 7 rfl ?_
  refine ax_Wp.cpI (S' := []) hD rfl rfl (fun _ => rfl) (fun m3 hD => ?_)
  refine ax_Wp.go (f' := (53, [some (.ref 23), some (.ref 5)], [.int (nI 4), .int (nI 0), .ref 27, .int (nI 0), .ref 9])) 7 rfl ?_
  refine ax_Wp.cpI (S' := []) hD rfl rfl (fun _ => rfl) (fun m4 hD => ?_)
  refine ax_Wp.go (f' := (61, [some (.ref 23), some (.ref 5)], [.int (rI m4 5 4), .ref 23])) 3 rfl ?_
  refine ax_Wp.ptI hD rfl rfl rfl (fun m5 hD => ?_)
  obtain rfl := inj hD
  exact ax_Wp.ret rfl ⟨rfl, rfl⟩
def D28_28_10 (m : dM) : Option (dM) := (kI m 11 29 8).bind fun (m1 : dM) => (kI m1 12 30 8).bind fun (m2 : dM) => (kI m2 13 31 8).bind fun (m3 : dM) => (kI m3 14 32 8).bind fun (m4 : dM) => (fI m4 28 4 (rI m4 10 4)).bind fun (m5 : dM) => some m5
set_option maxRecDepth 20000 in
theorem w_28_28_10 {X : Nat × (Nat → Int32)} {d : Nat} {m : dM} {r : dM} (hD : D28_28_10 m = some r) : ax_Ev X (d + 1) 28 [.ref 28, .ref 10] (stt m) (.inl none) (stt r) := by
  unfold D28_28_10 at hD
  show ax_Wp X (d + 0 + 1) 28 (0, [some (.ref 28), some (.ref 10)], []) (stt m) _
  refine ax_Wp.go (f' := (12, [some (.ref 28), some (.ref 10)], [.int (nI 8), .int (nI 0), .ref 29, .int (nI 0), .ref 11])) 7 rfl ?_
  refine ax_Wp.cpI (S' := []) hD rfl rfl (fun _ => rfl) (fun m1 hD => ?_)
  refine ax_Wp.go (f' := (27, [some (.ref 28), some (.ref 10)], [.int (nI 8), .int (nI 0), .ref 30, .int (nI 0), .ref 12])) 7 rfl ?_
  refine ax_Wp.cpI (S' := []) hD rfl rfl (fun _ => rfl) (fun m2 hD => ?_)
  refine ax_Wp.go (f' := (42, [some (.ref 28), some (.ref 10)], [.int (nI 8), .int (nI 0), .ref 31, .int (nI 0), .ref 13])) 7 rfl ?_
  refine ax_Wp.cpI (S' := []) hD rfl rfl (fun _ => rfl) (fun m3 hD => ?_)
  refine ax_Wp.go (f' := (57, [some (.ref 28), some (.ref 10)], [.int (nI 8), .int (nI 0), .ref 32, .int (nI 0), .ref 14])) 7 rfl ?_
  refine ax_Wp.cpI (S' := []) hD rfl rfl (fun _ => rfl) (fun m4 hD => ?_)
  refine ax_Wp.go (f' := (65, [some (.ref 28), some (.ref 10)], [.int (rI m4 10 4), .ref 28])) 3 rfl ?_
  refine ax_Wp.ptI hD rfl rfl rfl (fun m5 hD => ?_)
  obtain rfl := inj hD
  exact ax_Wp.ret rfl ⟨rfl, rfl⟩
def D22_33_15 (m : dM) : Option (dM) := (kL m 16 34 61).bind fun (m1 : dM) => (fI m1 33 1 (rI m1 15 1)).bind fun (m2 : dM) => some m2
set_option maxRecDepth 20000 in
theorem w_22_33_15 {X : Nat × (Nat → Int32)} {d : Nat} {m : dM} {r : dM} (hD : D22_33_15 m = some r) : ax_Ev X (d + 1) 22 [.ref 33, .ref 15] (stt m) (.inl none) (stt r) := by
  unfold D22_33_15 at hD
  show ax_Wp X (d + 0 + 1) 22 (0, [some (.ref 33), some (.ref 15)], []) (stt m) _
  refine ax_Wp.go (f' := (12, [some (.ref 33), some (.ref 15)], [.int (nI 61), .int (nI 0), .ref 34, .int (nI 0), .ref 16])) 7 rfl ?_
  refine ax_Wp.cpL (S' := []) hD rfl rfl (fun _ => rfl) (fun m1 hD => ?_)
  refine ax_Wp.go (f' := (20, [some (.ref 33), some (.ref 15)], [.int (rI m1 15 1), .ref 33])) 3 rfl ?_
  refine ax_Wp.ptI hD rfl rfl rfl (fun m2 hD => ?_)
  obtain rfl := inj hD
  exact ax_Wp.ret rfl ⟨rfl, rfl⟩
def D41_19_1 (m : dM) : Option (dM) := (D58_20_2 m).bind fun (r1 : dM) => (D1_23_5 r1).bind fun (r2 : dM) => (D28_28_10 r2).bind fun (r3 : dM) => (D22_33_15 r3).bind fun (r4 : dM) => (kI r4 17 35 2).bind fun (m5 : dM) => (fI m5 19 5 (rI m5 1 5)).bind fun (m6 : dM) => (fI m6 19 6 (rI m6 1 6)).bind fun (m7 : dM) => (fI m7 19 7 (rI m7 1 7)).bind fun (m8 : dM) => (fI m8 19 8 (rI m8 1 8)).bind fun (m9 : dM) => (fI m9 19 9 (rI m9 1 9)).bind fun (m10 : dM) => some m10
set_option maxRecDepth 20000 in
theorem w_41_19_1 {X : Nat × (Nat → Int32)} {d : Nat} {m : dM} {r : dM} (hD : D41_19_1 m = some r) : ax_Ev X (d + 2) 41 [.ref 19, .ref 1] (stt m) (.inl none) (stt r) := by
  unfold D41_19_1 at hD
  show ax_Wp X (d + 1 + 1) 41 (0, [some (.ref 19), some (.ref 1)], []) (stt m) _
  refine ax_Wp.go (f' := (8, [some (.ref 19), some (.ref 1)], [.ref 2, .ref 20])) 4 rfl ?_
  refine bnd hD (fun r1 hx hD => ?_)
  refine ax_Wp.callE (f' := (11, [some (.ref 19), some (.ref 1)], [])) rfl rfl (w_58_20_2 (d := d + 0) hx) rfl ?_
  refine ax_Wp.go (f' := (19, [some (.ref 19), some (.ref 1)], [.ref 5, .ref 23])) 4 rfl ?_
  refine bnd hD (fun r2 hx hD => ?_)
  refine ax_Wp.callE (f' := (22, [some (.ref 19), some (.ref 1)], [])) rfl rfl (w_1_23_5 (d := d + 0) hx) rfl ?_
  refine ax_Wp.go (f' := (30, [some (.ref 19), some (.ref 1)], [.ref 10, .ref 28])) 4 rfl ?_
  refine bnd hD (fun r3 hx hD => ?_)
  refine ax_Wp.callE (f' := (33, [some (.ref 19), some (.ref 1)], [])) rfl rfl (w_28_28_10 (d := d + 0) hx) rfl ?_
  refine ax_Wp.go (f' := (41, [some (.ref 19), some (.ref 1)], [.ref 15, .ref 33])) 4 rfl ?_
  refine bnd hD (fun r4 hx hD => ?_)
  refine ax_Wp.callE (f' := (44, [some (.ref 19), some (.ref 1)], [])) rfl rfl (w_22_33_15 (d := d + 0) hx) rfl ?_
  refine ax_Wp.go (f' := (55, [some (.ref 19), some (.ref 1)], [.int (nI 2), .int (nI 0), .ref 35, .int (nI 0), .ref 17])) 7 rfl ?_
  refine ax_Wp.cpI (S' := []) hD rfl rfl (fun _ => rfl) (fun m5 hD => ?_)
  refine ax_Wp.go (f' := (63, [some (.ref 19), some (.ref 1)], [.int (rI m5 1 5), .ref 19])) 3 rfl ?_
  refine ax_Wp.ptI hD rfl rfl rfl (fun m6 hD => ?_)
  refine ax_Wp.go (f' := (71, [some (.ref 19), some (.ref 1)], [.int (rI m6 1 6), .ref 19])) 3 rfl ?_
  refine ax_Wp.ptI hD rfl rfl rfl (fun m7 hD => ?_)
  refine ax_Wp.go (f' := (79, [some (.ref 19), some (.ref 1)], [.int (rI m7 1 7), .ref 19])) 3 rfl ?_
  refine ax_Wp.ptI hD rfl rfl rfl (fun m8 hD => ?_)
  refine ax_Wp.go (f' := (87, [some (.ref 19), some (.ref 1)], [.int (rI m8 1 8), .ref 19])) 3 rfl ?_
  refine ax_Wp.ptI hD rfl rfl rfl (fun m9 hD => ?_)
  refine ax_Wp.go (f' := (95, [some (.ref 19), some (.ref 1)], [.int (rI m9 1 9), .ref 19])) 3 rfl ?_
  refine ax_Wp.ptI hD rfl rfl rfl (fun m10 hD => ?_)
  obtain rfl := inj hD
  exact ax_Wp.ret rfl ⟨rfl, rfl⟩
def D87 (m : dM) : Option (Int32 × dM) := (D41_19_1 m).bind fun (r1 : dM) => (fI r1 0 7 (nI 1)).bind fun (m2 : dM) => some (rI m2 1 7, m2)
set_option maxRecDepth 20000 in
theorem w_87 {X : Nat × (Nat → Int32)} {d : Nat} {m : dM} {r : Int32 × dM} (hD : D87 m = some r) : ax_Ev X (d + 3) 87 [.ref 0] (stt m) (.inl (some (.int r.1))) (stt r.2) := by
  unfold D87 at hD
  show ax_Wp X (d + 2 + 1) 87 (0, [some (.ref 0)], []) (stt m) _
  refine ax_Wp.go (f' := (8, [some (.ref 0)], [.ref 1, .ref 19])) 4 rfl ?_
  refine bnd hD (fun r1 hx hD => ?_)
  refine ax_Wp.callE (f' := (11, [some (.ref 0)], [])) rfl rfl (w_41_19_1 (d := d + 0) hx) rfl ?_
  refine ax_Wp.go (f' := (13, [some (.ref 0)], [.int (nI 1), .ref 0])) 2 rfl ?_
  refine ax_Wp.ptI hD rfl rfl rfl (fun m2 hD => ?_)
  refine ax_Wp.go (f' := (23, [some (.ref 0)], [.int (rI m2 1 7)])) 3 rfl ?_
  obtain rfl := inj hD
  exact ax_Wp.ret rfl ⟨rfl, rfl⟩
def D199 (m : dM) : Option (Int32 × dM) := (fI m 130 7 (nI 0)).bind fun (m1 : dM) => Option.bind (lp (β := dM) 3000 (fun (s2 : Int32 × dM) => if (nI 299) ≤ s2.1 then some (.inr s2.2) else (gI s2.2 131 299 s2.1).bind fun (x4 : Int32) => (sI s2.2 133 299 s2.1 x4).bind fun (m5 : dM) => some (.inl (s2.1 + (nI 1), m5))) (nI 0, m1)) fun (v3 : dM) => (fI v3 130 4 (nI 1)).bind fun (m6 : dM) => some (rI m6 131 168, m6)
set_option maxRecDepth 20000 in
theorem w_199 {X : Nat × (Nat → Int32)} {d : Nat} {m : dM} {r : Int32 × dM} (hD : D199 m = some r) : ax_Ev X (d + 1) 199 [.ref 130] (stt m) (.inl (some (.int r.1))) (stt r.2) := by
  unfold D199 at hD
  show ax_Wp X (d + 0 + 1) 199 (0, [some (.ref 130), none], []) (stt m) _
  refine ax_Wp.go (f' := (2, [some (.ref 130), none], [.int (nI 0), .ref 130])) 2 rfl ?_
  refine ax_Wp.ptI hD rfl rfl rfl (fun m1 hD => ?_)
  refine ax_Wp.go (f' := (7, [some (.ref 130), some (.int (nI 0))], [])) 2 rfl ?_
  refine bnd hD (fun v3 hx hD => ?_)
  refine ax_Wp.jn (F := (32, [some (.ref 130), none], [])) (hh := stt v3) ?_ (fun kkv3 => ?_)
  · refine ax_Wp.go (f' := (34, [some (.ref 130), none], [.int (nI 1), .ref 130])) 2 rfl ?_
    refine ax_Wp.ptI hD rfl rfl rfl (fun m6 hD => ?_)
    refine ax_Wp.go (f' := (45, [some (.ref 130), none], [.int (rI m6 131 168)])) 4 rfl ?_
    obtain rfl := inj hD
    exact ax_Wp.ret rfl ⟨rfl, rfl⟩
  clear hD
  refine ax_Wp.lpD (fun (s2 : Int32 × dM) => ((7, [some (.ref 130), some (.int s2.1)], []), stt s2.2)) ?_ hx
  clear hx
  intro s2 v hD ks2
  refine ax_Wp.go (f' := (11, [some (.ref 130), some (.int s2.1)], [.int (nI 299), .int s2.1])) 2 rfl ?_
  refine ax_Wp.brD hD rfl (fun _ hD => ?_) (fun _ hD => ?_)
  · obtain rfl := inj hD
    obtain rfl := ks2.o
    exact ax_Wp.dead kkv3 ⟨.inl rfl, ⟨.inr ⟨rfl, trivial⟩, trivial⟩⟩
  · refine ax_Wp.go (f' := (24, [some (.ref 130), some (.int s2.1)], [.int s2.1, .ref 131, .int s2.1, .ref 133])) 6 rfl ?_
    refine ax_Wp.rdI hD rfl rfl rfl (fun x4 hD => ?_)
    refine ax_Wp.wrI hD rfl rfl (fun _ => rfl) (fun m5 hD => ?_)
    refine ax_Wp.go (f' := (7, [some (.ref 130), some (.int (s2.1 + (nI 1)))], [])) 2 rfl ?_
    obtain rfl := inj hD
    exact ks2.i
def D200 (m : dM) : Option (Int32 × dM) := (fI m 130 7 (nI 0)).bind fun (m1 : dM) => if (rI m1 130 4) = (nI 0) then (D143 m1 (nI 1)).bind fun (r2 : Int32 × dM) => some (r2.1, r2.2) else (D149 m1).bind fun (r3 : dM) => Option.bind (lp (β := dM) 3000 (fun (s4 : Int32 × dM) => if (nI 299) ≤ s4.1 then some (.inr s4.2) else (gI s4.2 133 299 s4.1).bind fun (x6 : Int32) => (sI s4.2 131 299 s4.1 x6).bind fun (m7 : dM) => some (.inl (s4.1 + (nI 1), m7))) (nI 0, r3)) fun (v5 : dM) => some (rI v5 131 168, v5)
set_option maxRecDepth 20000 in
theorem w_200 {X : Nat × (Nat → Int32)} {d : Nat} {m : dM} {r : Int32 × dM} (hD : D200 m = some r) : ax_Ev X (d + 2) 200 [.ref 130] (stt m) (.inl (some (.int r.1))) (stt r.2) := by
  unfold D200 at hD
  show ax_Wp X (d + 1 + 1) 200 (0, [some (.ref 130), none], []) (stt m) _
  refine ax_Wp.go (f' := (2, [some (.ref 130), none], [.int (nI 0), .ref 130])) 2 rfl ?_
  refine ax_Wp.ptI hD rfl rfl rfl (fun m1 hD => ?_)
  refine ax_Wp.go (f' := (9, [some (.ref 130), none], [.int (rI m1 130 4)])) 2 rfl ?_
  refine ax_Wp.brD hD rfl (fun _ hD => ?_) (fun _ hD => ?_)
  · refine ax_Wp.go (f' := (14, [some (.ref 130), none], [.int (nI 1), .ref 130])) 2 rfl ?_
    refine bnd hD (fun r2 hx hD => ?_)
    refine ax_Wp.callE (f' := (17, [some (.ref 130), none], [])) rfl rfl (w_143 (d := d + 0) hx) rfl ?_
    obtain rfl := inj hD
    exact ax_Wp.ret rfl ⟨rfl, rfl⟩
  · refine ax_Wp.go (f' := (19, [some (.ref 130), none], [.ref 130])) 1 rfl ?_
    refine bnd hD (fun r3 hx hD => ?_)
    refine ax_Wp.callE (f' := (22, [some (.ref 130), none], [])) rfl rfl (w_149 (d := d + 0) hx) rfl ?_
    refine ax_Wp.go (f' := (24, [some (.ref 130), some (.int (nI 0))], [])) 2 rfl ?_
    refine bnd hD (fun v5 hx hD => ?_)
    refine ax_Wp.jn (F := (49, [some (.ref 130), none], [])) (hh := stt v5) ?_ (fun kkv5 => ?_)
    · refine ax_Wp.go (f' := (57, [some (.ref 130), none], [.int (rI v5 131 168)])) 4 rfl ?_
      obtain rfl := inj hD
      exact ax_Wp.ret rfl ⟨rfl, rfl⟩
    clear hD
    refine ax_Wp.lpD (fun (s4 : Int32 × dM) => ((24, [some (.ref 130), some (.int s4.1)], []), stt s4.2)) ?_ hx
    clear hx
    intro s4 v hD ks4
    refine ax_Wp.go (f' := (28, [some (.ref 130), some (.int s4.1)], [.int (nI 299), .int s4.1])) 2 rfl ?_
    refine ax_Wp.brD hD rfl (fun _ hD => ?_) (fun _ hD => ?_)
    · obtain rfl := inj hD
      obtain rfl := ks4.o
      exact ax_Wp.dead kkv5 ⟨.inl rfl, ⟨.inr ⟨rfl, trivial⟩, trivial⟩⟩
    · refine ax_Wp.go (f' := (41, [some (.ref 130), some (.int s4.1)], [.int s4.1, .ref 133, .int s4.1, .ref 131])) 6 rfl ?_
      refine ax_Wp.rdI hD rfl rfl rfl (fun x6 hD => ?_)
      refine ax_Wp.wrI hD rfl rfl (fun _ => rfl) (fun m7 hD => ?_)
      refine ax_Wp.go (f' := (24, [some (.ref 130), some (.int (s4.1 + (nI 1)))], [])) 2 rfl ?_
      obtain rfl := inj hD
      exact ks4.i
def D89 (m : dM) : Option (Int32) := some (rI m 0 6)
set_option maxRecDepth 20000 in
theorem w_89 {X : Nat × (Nat → Int32)} {d : Nat} {m : dM} {r : Int32} (hD : D89 m = some r) : ax_Ev X (d + 1) 89 [.ref 0] (stt m) (.inl (some (.int r))) (stt m) := by
  unfold D89 at hD
  show ax_Wp X (d + 0 + 1) 89 (0, [some (.ref 0)], []) (stt m) _
  refine ax_Wp.go (f' := (4, [some (.ref 0)], [.int (rI m 0 6)])) 2 rfl ?_
  obtain rfl := inj hD
  exact ax_Wp.ret rfl ⟨rfl, rfl⟩
def D201 (m : dM) : Option (Int32 × dM) := (fI m 130 7 (nI 0)).bind fun (m1 : dM) => some (rI m1 130 2, m1)
set_option maxRecDepth 20000 in
theorem w_201 {X : Nat × (Nat → Int32)} {d : Nat} {m : dM} {r : Int32 × dM} (hD : D201 m = some r) : ax_Ev X (d + 1) 201 [.ref 130] (stt m) (.inl (some (.int r.1))) (stt r.2) := by
  unfold D201 at hD
  show ax_Wp X (d + 0 + 1) 201 (0, [some (.ref 130)], []) (stt m) _
  refine ax_Wp.go (f' := (2, [some (.ref 130)], [.int (nI 0), .ref 130])) 2 rfl ?_
  refine ax_Wp.ptI hD rfl rfl rfl (fun m1 hD => ?_)
  refine ax_Wp.go (f' := (9, [some (.ref 130)], [.int (rI m1 130 2)])) 2 rfl ?_
  obtain rfl := inj hD
  exact ax_Wp.ret rfl ⟨rfl, rfl⟩
def D90 (m : dM) : Option (Int32) := some (rI m 2 4)
set_option maxRecDepth 20000 in
theorem w_90 {X : Nat × (Nat → Int32)} {d : Nat} {m : dM} {r : Int32} (hD : D90 m = some r) : ax_Ev X (d + 1) 90 [.ref 0] (stt m) (.inl (some (.int r))) (stt m) := by
  unfold D90 at hD
  show ax_Wp X (d + 0 + 1) 90 (0, [some (.ref 0)], []) (stt m) _
  refine ax_Wp.go (f' := (10, [some (.ref 0)], [.int (rI m 2 4)])) 4 rfl ?_
  obtain rfl := inj hD
  exact ax_Wp.ret rfl ⟨rfl, rfl⟩
def D202 (m : dM) : Option (Int32 × dM) := (fI m 130 7 (nI 0)).bind fun (m1 : dM) => some (rI m1 131 0, m1)
set_option maxRecDepth 20000 in
theorem w_202 {X : Nat × (Nat → Int32)} {d : Nat} {m : dM} {r : Int32 × dM} (hD : D202 m = some r) : ax_Ev X (d + 1) 202 [.ref 130] (stt m) (.inl (some (.int r.1))) (stt r.2) := by
  unfold D202 at hD
  show ax_Wp X (d + 0 + 1) 202 (0, [some (.ref 130)], []) (stt m) _
  refine ax_Wp.go (f' := (2, [some (.ref 130)], [.int (nI 0), .ref 130])) 2 rfl ?_
  refine ax_Wp.ptI hD rfl rfl rfl (fun m1 hD => ?_)
  refine ax_Wp.go (f' := (11, [some (.ref 130)], [.int (rI m1 131 0)])) 4 rfl ?_
  obtain rfl := inj hD
  exact ax_Wp.ret rfl ⟨rfl, rfl⟩
def D203 (m : dM) (p0 : Int32) : Option (Int32 × dM) := (fI m 130 7 (nI 0)).bind fun (m1 : dM) => (D147 m1 p0).bind fun (x2 : Int32) => Option.bind ((if x2 = (nI 0) then (D143 m1 (nI 1)).bind fun (r4 : Int32 × dM) => some (r4.1, r4.2) else (D154 m1 p0).bind fun (x5 : Int32) => some (x5, m1)) : Option (Int32 × dM)) fun (v3 : Int32 × dM) => some (v3.1, v3.2)
set_option maxRecDepth 20000 in
theorem w_203 {X : Nat × (Nat → Int32)} {d : Nat} {m : dM} {p0 : Int32} {r : Int32 × dM} (hD : D203 m p0 = some r) : ax_Ev X (d + 3) 203 [.ref 130, .int p0] (stt m) (.inl (some (.int r.1))) (stt r.2) := by
  unfold D203 at hD
  show ax_Wp X (d + 2 + 1) 203 (0, [some (.ref 130), some (.int p0)], []) (stt m) _
  refine ax_Wp.go (f' := (2, [some (.ref 130), some (.int p0)], [.int (nI 0), .ref 130])) 2 rfl ?_
  refine ax_Wp.ptI hD rfl rfl rfl (fun m1 hD => ?_)
  refine ax_Wp.go (f' := (7, [some (.ref 130), some (.int p0)], [.int p0, .ref 130])) 2 rfl ?_
  refine bnd hD (fun x2 hx hD => ?_)
  refine ax_Wp.callE (f' := (10, [some (.ref 130), some (.int p0)], [])) rfl rfl (w_147 (d := d + 0) hx) rfl ?_
  refine bnd hD (fun v3 hx hD => ?_)
  refine ax_Wp.jn (F := (26, [some (.ref 130), none], [.int v3.1])) (hh := stt v3.2) ?_ (fun kkv3 => ?_)
  · obtain rfl := inj hD
    exact ax_Wp.ret rfl ⟨rfl, rfl⟩
  clear hD
  have hD := hx
  clear hx
  refine ax_Wp.brD hD rfl (fun _ hD => ?_) (fun _ hD => ?_)
  · refine ax_Wp.go (f' := (23, [some (.ref 130), some (.int p0)], [.int (nI 1), .ref 130])) 2 rfl ?_
    refine bnd hD (fun r4 hx hD => ?_)
    refine ax_Wp.callE (f' := (26, [some (.ref 130), some (.int p0)], [])) rfl rfl (w_143 (d := d + 1) hx) rfl ?_
    obtain rfl := inj hD
    exact ax_Wp.dead kkv3 ⟨.inl rfl, ⟨.inr ⟨rfl, trivial⟩, trivial⟩⟩
  · refine ax_Wp.go (f' := (15, [some (.ref 130), some (.int p0)], [.int p0, .ref 130])) 2 rfl ?_
    refine bnd hD (fun x5 hx hD => ?_)
    refine ax_Wp.callE (f' := (18, [some (.ref 130), some (.int p0)], [])) rfl rfl (w_154 (d := d + 1) hx) rfl ?_
    refine ax_Wp.go (f' := (26, [some (.ref 130), some (.int p0)], [.int x5])) 1 rfl ?_
    obtain rfl := inj hD
    exact ax_Wp.dead kkv3 ⟨.inl rfl, ⟨.inr ⟨rfl, trivial⟩, trivial⟩⟩
def D204 (m : dM) (p0 : Int32) : Option (Int32 × dM) := (fI m 130 7 (nI 0)).bind fun (m1 : dM) => (D147 m1 p0).bind fun (x2 : Int32) => Option.bind ((if x2 = (nI 0) then (D143 m1 (nI 1)).bind fun (r4 : Int32 × dM) => some (r4.1, r4.2) else (D155 m1 p0).bind fun (x5 : Int32) => some (x5, m1)) : Option (Int32 × dM)) fun (v3 : Int32 × dM) => some (v3.1, v3.2)
set_option maxRecDepth 20000 in
theorem w_204 {X : Nat × (Nat → Int32)} {d : Nat} {m : dM} {p0 : Int32} {r : Int32 × dM} (hD : D204 m p0 = some r) : ax_Ev X (d + 3) 204 [.ref 130, .int p0] (stt m) (.inl (some (.int r.1))) (stt r.2) := by
  unfold D204 at hD
  show ax_Wp X (d + 2 + 1) 204 (0, [some (.ref 130), some (.int p0)], []) (stt m) _
  refine ax_Wp.go (f' := (2, [some (.ref 130), some (.int p0)], [.int (nI 0), .ref 130])) 2 rfl ?_
  refine ax_Wp.ptI hD rfl rfl rfl (fun m1 hD => ?_)
  refine ax_Wp.go (f' := (7, [some (.ref 130), some (.int p0)], [.int p0, .ref 130])) 2 rfl ?_
  refine bnd hD (fun x2 hx hD => ?_)
  refine ax_Wp.callE (f' := (10, [some (.ref 130), some (.int p0)], [])) rfl rfl (w_147 (d := d + 0) hx) rfl ?_
  refine bnd hD (fun v3 hx hD => ?_)
  refine ax_Wp.jn (F := (26, [some (.ref 130), none], [.int v3.1])) (hh := stt v3.2) ?_ (fun kkv3 => ?_)
  · obtain rfl := inj hD
    exact ax_Wp.ret rfl ⟨rfl, rfl⟩
  clear hD
  have hD := hx
  clear hx
  refine ax_Wp.brD hD rfl (fun _ hD => ?_) (fun _ hD => ?_)
  · refine ax_Wp.go (f' := (23, [some (.ref 130), some (.int p0)], [.int (nI 1), .ref 130])) 2 rfl ?_
    refine bnd hD (fun r4 hx hD => ?_)
    refine ax_Wp.callE (f' := (26, [some (.ref 130), some (.int p0)], [])) rfl rfl (w_143 (d := d + 1) hx) rfl ?_
    obtain rfl := inj hD
    exact ax_Wp.dead kkv3 ⟨.inl rfl, ⟨.inr ⟨rfl, trivial⟩, trivial⟩⟩
  · refine ax_Wp.go (f' := (15, [some (.ref 130), some (.int p0)], [.int p0, .ref 130])) 2 rfl ?_
    refine bnd hD (fun x5 hx hD => ?_)
    refine ax_Wp.callE (f' := (18, [some (.ref 130), some (.int p0)], [])) rfl rfl (w_155 (d := d + 1) hx) rfl ?_
    refine ax_Wp.go (f' := (26, [some (.ref 130), some (.int p0)], [.int x5])) 1 rfl ?_
    obtain rfl := inj hD
    exact ax_Wp.dead kkv3 ⟨.inl rfl, ⟨.inr ⟨rfl, trivial⟩, trivial⟩⟩
def D205 (m : dM) (p0 : Int32) : Option (Int32 × dM) := (D147 m p0).bind fun (x1 : Int32) => Option.bind ((if x1 = (nI 0) then some (nI 1) else some (nI 0)) : Option (Int32)) fun (v2 : Int32) => (fI m 130 7 v2).bind fun (m3 : dM) => Option.bind ((if (rI m3 130 7) = (nI 0) then (D157 m3 p0).bind fun (x5 : Int32) => if x5 = (nI 0) then some (nI 0) else some (nI 1) else some (nI 0)) : Option (Int32)) fun (v4 : Int32) => (gB v4).bind fun (b6 : Int32) => some (b6, m3)
set_option maxRecDepth 20000 in
theorem w_205 {X : Nat × (Nat → Int32)} {d : Nat} {m : dM} {p0 : Int32} {r : Int32 × dM} (hD : D205 m p0 = some r) : ax_Ev X (d + 3) 205 [.ref 130, .int p0] (stt m) (.inl (some (.int r.1))) (stt r.2) := by
  unfold D205 at hD
  show ax_Wp X (d + 2 + 1) 205 (0, [some (.ref 130), some (.int p0)], []) (stt m) _
  refine ax_Wp.go (f' := (3, [some (.ref 130), some (.int p0)], [.int p0, .ref 130, .ref 130])) 3 rfl ?_
  refine bnd hD (fun x1 hx hD => ?_)
  refine ax_Wp.callE (f' := (6, [some (.ref 130), some (.int p0)], [.ref 130])) rfl rfl (w_147 (d := d + 0) hx) rfl ?_
  refine bnd hD (fun v2 hx hD => ?_)
  refine ax_Wp.jn (F := (14, [some (.ref 130), some (.int p0)], [.int v2, .ref 130])) (hh := stt m) ?_ (fun kkv2 => ?_)
  · refine ax_Wp.ptI hD rfl rfl rfl (fun m3 hD => ?_)
    refine ax_Wp.go (f' := (21, [some (.ref 130), some (.int p0)], [.int (rI m3 130 7)])) 2 rfl ?_
    refine bnd hD (fun v4 hx hD => ?_)
    refine ax_Wp.jn (F := (37, [some (.ref 130), none], [.int v4])) (hh := stt m3) ?_ (fun kkv4 => ?_)
    · refine ax_Wp.retB hD rfl (fun b6 hD => ?_)
      obtain rfl := inj hD
      exact ⟨rfl, rfl⟩
    clear hD
    have hD := hx
    clear hx
    refine ax_Wp.brD hD rfl (fun _ hD => ?_) (fun _ hD => ?_)
    · refine ax_Wp.go (f' := (26, [some (.ref 130), some (.int p0)], [.int p0, .ref 130])) 2 rfl ?_
      refine bnd hD (fun x5 hx hD => ?_)
      refine ax_Wp.callE (f' := (29, [some (.ref 130), some (.int p0)], [])) rfl rfl (w_157 (d := d + 1) hx) rfl ?_
      refine ax_Wp.brD hD rfl (fun _ hD => ?_) (fun _ hD => ?_)
      · refine ax_Wp.go (f' := (37, [some (.ref 130), some (.int p0)], [.int (nI 0)])) 1 rfl ?_
        obtain rfl := inj hD
        exact ax_Wp.dead kkv4 ⟨.inl rfl, ⟨.inr ⟨rfl, trivial⟩, trivial⟩⟩
      · refine ax_Wp.go (f' := (37, [some (.ref 130), some (.int p0)], [.int (nI 1)])) 2 rfl ?_
        obtain rfl := inj hD
        exact ax_Wp.dead kkv4 ⟨.inl rfl, ⟨.inr ⟨rfl, trivial⟩, trivial⟩⟩
    · refine ax_Wp.go (f' := (37, [some (.ref 130), some (.int p0)], [.int (nI 0)])) 1 rfl ?_
      obtain rfl := inj hD
      exact ax_Wp.dead kkv4 ⟨.inl rfl, ⟨.inr ⟨rfl, trivial⟩, trivial⟩⟩
  clear hD
  have hD := hx
  clear hx
  refine ax_Wp.brD hD rfl (fun _ hD => ?_) (fun _ hD => ?_)
  · refine ax_Wp.go (f' := (14, [some (.ref 130), some (.int p0)], [.int (nI 1), .ref 130])) 1 rfl ?_
    obtain rfl := inj hD
    exact kkv2
  · refine ax_Wp.go (f' := (14, [some (.ref 130), some (.int p0)], [.int (nI 0), .ref 130])) 2 rfl ?_
    obtain rfl := inj hD
    exact kkv2
def D206 (m : dM) (p0 : Int32) (p1 : Int32) : Option (Int32 × dM) := (fI m 130 7 (nI 0)).bind fun (m1 : dM) => (D146 p0).bind fun (x2 : Int32) => Option.bind ((if x2 = (nI 0) then (D143 m1 (nI 1)).bind fun (r4 : Int32 × dM) => some (r4.1, r4.2) else (D150 m1 p0 p1).bind fun (x5 : Int32) => some (x5, m1)) : Option (Int32 × dM)) fun (v3 : Int32 × dM) => some (v3.1, v3.2)
set_option maxRecDepth 20000 in
theorem w_206 {X : Nat × (Nat → Int32)} {d : Nat} {m : dM} {p0 : Int32} {p1 : Int32} {r : Int32 × dM} (hD : D206 m p0 p1 = some r) : ax_Ev X (d + 3) 206 [.ref 130, .int p0, .int p1] (stt m) (.inl (some (.int r.1))) (stt r.2) := by
  unfold D206 at hD
  show ax_Wp X (d + 2 + 1) 206 (0, [some (.ref 130), some (.int p0), some (.int p1)], []) (stt m) _
  refine ax_Wp.go (f' := (2, [some (.ref 130), some (.int p0), some (.int p1)], [.int (nI 0), .ref 130])) 2 rfl ?_
  refine ax_Wp.ptI hD rfl rfl rfl (fun m1 hD => ?_)
  refine ax_Wp.go (f' := (6, [some (.ref 130), some (.int p0), some (.int p1)], [.int p0])) 1 rfl ?_
  refine bnd hD (fun x2 hx hD => ?_)
  refine ax_Wp.callE (f' := (9, [some (.ref 130), some (.int p0), some (.int p1)], [])) rfl rfl (w_146 (d := d + 0) hx) rfl ?_
  refine bnd hD (fun v3 hx hD => ?_)
  refine ax_Wp.jn (F := (26, [some (.ref 130), none, none], [.int v3.1])) (hh := stt v3.2) ?_ (fun kkv3 => ?_)
  · obtain rfl := inj hD
    exact ax_Wp.ret rfl ⟨rfl, rfl⟩
  clear hD
  have hD := hx
  clear hx
  refine ax_Wp.brD hD rfl (fun _ hD => ?_) (fun _ hD => ?_)
  · refine ax_Wp.go (f' := (23, [some (.ref 130), some (.int p0), some (.int p1)], [.int (nI 1), .ref 130])) 2 rfl ?_
    refine bnd hD (fun r4 hx hD => ?_)
    refine ax_Wp.callE (f' := (26, [some (.ref 130), some (.int p0), some (.int p1)], [])) rfl rfl (w_143 (d := d + 1) hx) rfl ?_
    obtain rfl := inj hD
    exact ax_Wp.dead kkv3 ⟨.inl rfl, ⟨.inr ⟨rfl, trivial⟩, ⟨.inr ⟨rfl, trivial⟩, trivial⟩⟩⟩
  · refine ax_Wp.go (f' := (15, [some (.ref 130), some (.int p0), some (.int p1)], [.int p1, .int p0, .ref 130])) 3 rfl ?_
    refine bnd hD (fun x5 hx hD => ?_)
    refine ax_Wp.callE (f' := (18, [some (.ref 130), some (.int p0), some (.int p1)], [])) rfl rfl (w_150 (d := d + 1) hx) rfl ?_
    refine ax_Wp.go (f' := (26, [some (.ref 130), some (.int p0), some (.int p1)], [.int x5])) 1 rfl ?_
    obtain rfl := inj hD
    exact ax_Wp.dead kkv3 ⟨.inl rfl, ⟨.inr ⟨rfl, trivial⟩, ⟨.inr ⟨rfl, trivial⟩, trivial⟩⟩⟩
def D207 (m : dM) (p0 : Int32) : Option (Int32 × dM) := (D206 m p0 (nI 0)).bind fun (r1 : Int32 × dM) => some (r1.1, r1.2)
set_option maxRecDepth 20000 in
theorem w_207 {X : Nat × (Nat → Int32)} {d : Nat} {m : dM} {p0 : Int32} {r : Int32 × dM} (hD : D207 m p0 = some r) : ax_Ev X (d + 4) 207 [.ref 130, .int p0] (stt m) (.inl (some (.int r.1))) (stt r.2) := by
  unfold D207 at hD
  show ax_Wp X (d + 3 + 1) 207 (0, [some (.ref 130), some (.int p0)], []) (stt m) _
  refine ax_Wp.go (f' := (3, [some (.ref 130), some (.int p0)], [.int (nI 0), .int p0, .ref 130])) 3 rfl ?_
  refine bnd hD (fun r1 hx hD => ?_)
  refine ax_Wp.callE (f' := (6, [some (.ref 130), some (.int p0)], [])) rfl rfl (w_206 (d := d + 0) hx) rfl ?_
  obtain rfl := inj hD
  exact ax_Wp.ret rfl ⟨rfl, rfl⟩
def D208 (m : dM) (p0 : Int32) : Option (Int32 × dM) := (D206 m p0 (nI 1)).bind fun (r1 : Int32 × dM) => Option.bind ((if r1.1 = (nI 1) then some (nI 1) else some (nI 0)) : Option (Int32)) fun (v2 : Int32) => (gB v2).bind fun (b3 : Int32) => some (b3, r1.2)
set_option maxRecDepth 20000 in
theorem w_208 {X : Nat × (Nat → Int32)} {d : Nat} {m : dM} {p0 : Int32} {r : Int32 × dM} (hD : D208 m p0 = some r) : ax_Ev X (d + 4) 208 [.ref 130, .int p0] (stt m) (.inl (some (.int r.1))) (stt r.2) := by
  unfold D208 at hD
  show ax_Wp X (d + 3 + 1) 208 (0, [some (.ref 130), some (.int p0)], []) (stt m) _
  refine ax_Wp.go (f' := (3, [some (.ref 130), some (.int p0)], [.int (nI 1), .int p0, .ref 130])) 3 rfl ?_
  refine bnd hD (fun r1 hx hD => ?_)
  refine ax_Wp.callE (f' := (6, [some (.ref 130), some (.int p0)], [])) rfl rfl (w_206 (d := d + 0) hx) rfl ?_
  refine ax_Wp.go (f' := (7, [some (.ref 130), some (.int p0)], [.int (nI 1), .int r1.1])) 1 rfl ?_
  refine bnd hD (fun v2 hx hD => ?_)
  refine ax_Wp.jn (F := (15, [some (.ref 130), none], [.int v2])) (hh := stt r1.2) ?_ (fun kkv2 => ?_)
  · refine ax_Wp.retB hD rfl (fun b3 hD => ?_)
    obtain rfl := inj hD
    exact ⟨rfl, rfl⟩
  clear hD
  have hD := hx
  clear hx
  refine ax_Wp.brD hD rfl (fun _ hD => ?_) (fun _ hD => ?_)
  · refine ax_Wp.go (f' := (15, [some (.ref 130), some (.int p0)], [.int (nI 1)])) 2 rfl ?_
    obtain rfl := inj hD
    exact ax_Wp.dead kkv2 ⟨.inl rfl, ⟨.inr ⟨rfl, trivial⟩, trivial⟩⟩
  · refine ax_Wp.go (f' := (15, [some (.ref 130), some (.int p0)], [.int (nI 0)])) 1 rfl ?_
    obtain rfl := inj hD
    exact ax_Wp.dead kkv2 ⟨.inl rfl, ⟨.inr ⟨rfl, trivial⟩, trivial⟩⟩
def D209 (m : dM) (p0 : Int32) : Option (Int32 × dM) := (fI m 130 7 (nI 0)).bind fun (m1 : dM) => (D146 p0).bind fun (x2 : Int32) => Option.bind ((if x2 = (nI 0) then (D143 m1 (nI 1)).bind fun (r4 : Int32 × dM) => some (r4.1, r4.2) else (D158 m1 p0).bind fun (x5 : Int32) => some (x5, m1)) : Option (Int32 × dM)) fun (v3 : Int32 × dM) => some (v3.1, v3.2)
set_option maxRecDepth 20000 in
theorem w_209 {X : Nat × (Nat → Int32)} {d : Nat} {m : dM} {p0 : Int32} {r : Int32 × dM} (hD : D209 m p0 = some r) : ax_Ev X (d + 3) 209 [.ref 130, .int p0] (stt m) (.inl (some (.int r.1))) (stt r.2) := by
  unfold D209 at hD
  show ax_Wp X (d + 2 + 1) 209 (0, [some (.ref 130), some (.int p0)], []) (stt m) _
  refine ax_Wp.go (f' := (2, [some (.ref 130), some (.int p0)], [.int (nI 0), .ref 130])) 2 rfl ?_
  refine ax_Wp.ptI hD rfl rfl rfl (fun m1 hD => ?_)
  refine ax_Wp.go (f' := (6, [some (.ref 130), some (.int p0)], [.int p0])) 1 rfl ?_
  refine bnd hD (fun x2 hx hD => ?_)
  refine ax_Wp.callE (f' := (9, [some (.ref 130), some (.int p0)], [])) rfl rfl (w_146 (d := d + 0) hx) rfl ?_
  refine bnd hD (fun v3 hx hD => ?_)
  refine ax_Wp.jn (F := (25, [some (.ref 130), none], [.int v3.1])) (hh := stt v3.2) ?_ (fun kkv3 => ?_)
  · obtain rfl := inj hD
    exact ax_Wp.ret rfl ⟨rfl, rfl⟩
  clear hD
  have hD := hx
  clear hx
  refine ax_Wp.brD hD rfl (fun _ hD => ?_) (fun _ hD => ?_)
  · refine ax_Wp.go (f' := (22, [some (.ref 130), some (.int p0)], [.int (nI 1), .ref 130])) 2 rfl ?_
    refine bnd hD (fun r4 hx hD => ?_)
    refine ax_Wp.callE (f' := (25, [some (.ref 130), some (.int p0)], [])) rfl rfl (w_143 (d := d + 1) hx) rfl ?_
    obtain rfl := inj hD
    exact ax_Wp.dead kkv3 ⟨.inl rfl, ⟨.inr ⟨rfl, trivial⟩, trivial⟩⟩
  · refine ax_Wp.go (f' := (14, [some (.ref 130), some (.int p0)], [.int p0, .ref 130])) 2 rfl ?_
    refine bnd hD (fun x5 hx hD => ?_)
    refine ax_Wp.callE (f' := (17, [some (.ref 130), some (.int p0)], [])) rfl rfl (w_158 (d := d + 0) hx) rfl ?_
    refine ax_Wp.go (f' := (25, [some (.ref 130), some (.int p0)], [.int x5])) 1 rfl ?_
    obtain rfl := inj hD
    exact ax_Wp.dead kkv3 ⟨.inl rfl, ⟨.inr ⟨rfl, trivial⟩, trivial⟩⟩
def D210 (m : dM) (p0 : Int32) : Option (Int32 × dM) := (D206 m p0 (nI 2)).bind fun (r1 : Int32 × dM) => Option.bind ((if (rI r1.2 130 7) = (nI 0) then if r1.1 = (-1) then some (nI 0) else some (nI 1) else some (nI 0)) : Option (Int32)) fun (v2 : Int32) => (gB v2).bind fun (b3 : Int32) => some (b3, r1.2)
set_option maxRecDepth 20000 in
theorem w_210 {X : Nat × (Nat → Int32)} {d : Nat} {m : dM} {p0 : Int32} {r : Int32 × dM} (hD : D210 m p0 = some r) : ax_Ev X (d + 4) 210 [.ref 130, .int p0] (stt m) (.inl (some (.int r.1))) (stt r.2) := by
  unfold D210 at hD
  show ax_Wp X (d + 3 + 1) 210 (0, [some (.ref 130), some (.int p0), none], []) (stt m) _
  refine ax_Wp.go (f' := (3, [some (.ref 130), some (.int p0), none], [.int (nI 2), .int p0, .ref 130])) 3 rfl ?_
  refine bnd hD (fun r1 hx hD => ?_)
  refine ax_Wp.callE (f' := (6, [some (.ref 130), some (.int p0), none], [])) rfl rfl (w_206 (d := d + 0) hx) rfl ?_
  refine ax_Wp.go (f' := (11, [some (.ref 130), some (.int p0), some (.int r1.1)], [.int (rI r1.2 130 7)])) 3 rfl ?_
  refine bnd hD (fun v2 hx hD => ?_)
  refine ax_Wp.jn (F := (24, [some (.ref 130), none, none], [.int v2])) (hh := stt r1.2) ?_ (fun kkv2 => ?_)
  · refine ax_Wp.retB hD rfl (fun b3 hD => ?_)
    obtain rfl := inj hD
    exact ⟨rfl, rfl⟩
  clear hD
  have hD := hx
  clear hx
  refine ax_Wp.brD hD rfl (fun _ hD => ?_) (fun _ hD => ?_)
  · refine ax_Wp.go (f' := (16, [some (.ref 130), some (.int p0), some (.int r1.1)], [.int (-1), .int r1.1])) 2 rfl ?_
    refine ax_Wp.brD hD rfl (fun _ hD => ?_) (fun _ hD => ?_)
    · refine ax_Wp.go (f' := (24, [some (.ref 130), some (.int p0), some (.int r1.1)], [.int (nI 0)])) 1 rfl ?_
      obtain rfl := inj hD
      exact ax_Wp.dead kkv2 ⟨.inl rfl, ⟨.inr ⟨rfl, trivial⟩, ⟨.inr ⟨rfl, trivial⟩, trivial⟩⟩⟩
    · refine ax_Wp.go (f' := (24, [some (.ref 130), some (.int p0), some (.int r1.1)], [.int (nI 1)])) 2 rfl ?_
      obtain rfl := inj hD
      exact ax_Wp.dead kkv2 ⟨.inl rfl, ⟨.inr ⟨rfl, trivial⟩, ⟨.inr ⟨rfl, trivial⟩, trivial⟩⟩⟩
  · refine ax_Wp.go (f' := (24, [some (.ref 130), some (.int p0), some (.int r1.1)], [.int (nI 0)])) 1 rfl ?_
    obtain rfl := inj hD
    exact ax_Wp.dead kkv2 ⟨.inl rfl, ⟨.inr ⟨rfl, trivial⟩, ⟨.inr ⟨rfl, trivial⟩, trivial⟩⟩⟩
def D211 (m : dM) (p0 : Int32) : Option (Int32 × dM) := (D206 m p0 (nI 2)).bind fun (r1 : Int32 × dM) => Option.bind ((if r1.1 = (-1) then (D143 r1.2 (nI 2)).bind fun (r3 : Int32 × dM) => some (r3.1, r3.2) else some (r1.1, r1.2)) : Option (Int32 × dM)) fun (v2 : Int32 × dM) => some (v2.1, v2.2)
set_option maxRecDepth 20000 in
theorem w_211 {X : Nat × (Nat → Int32)} {d : Nat} {m : dM} {p0 : Int32} {r : Int32 × dM} (hD : D211 m p0 = some r) : ax_Ev X (d + 4) 211 [.ref 130, .int p0] (stt m) (.inl (some (.int r.1))) (stt r.2) := by
  unfold D211 at hD
  show ax_Wp X (d + 3 + 1) 211 (0, [some (.ref 130), some (.int p0), none], []) (stt m) _
  refine ax_Wp.go (f' := (3, [some (.ref 130), some (.int p0), none], [.int (nI 2), .int p0, .ref 130])) 3 rfl ?_
  refine bnd hD (fun r1 hx hD => ?_)
  refine ax_Wp.callE (f' := (6, [some (.ref 130), some (.int p0), none], [])) rfl rfl (w_206 (d := d + 0) hx) rfl ?_
  refine ax_Wp.go (f' := (9, [some (.ref 130), some (.int p0), some (.int r1.1)], [.int (-1), .int r1.1])) 3 rfl ?_
  refine bnd hD (fun v2 hx hD => ?_)
  refine ax_Wp.jn (F := (21, [some (.ref 130), none, none], [.int v2.1])) (hh := stt v2.2) ?_ (fun kkv2 => ?_)
  · obtain rfl := inj hD
    exact ax_Wp.ret rfl ⟨rfl, rfl⟩
  clear hD
  have hD := hx
  clear hx
  refine ax_Wp.brD hD rfl (fun _ hD => ?_) (fun _ hD => ?_)
  · refine ax_Wp.go (f' := (14, [some (.ref 130), some (.int p0), some (.int r1.1)], [.int (nI 2), .ref 130])) 2 rfl ?_
    refine bnd hD (fun r3 hx hD => ?_)
    refine ax_Wp.callE (f' := (17, [some (.ref 130), some (.int p0), some (.int r1.1)], [])) rfl rfl (w_143 (d := d + 2) hx) rfl ?_
    refine ax_Wp.go (f' := (21, [some (.ref 130), some (.int p0), some (.int r1.1)], [.int r3.1])) 1 rfl ?_
    obtain rfl := inj hD
    exact ax_Wp.dead kkv2 ⟨.inl rfl, ⟨.inr ⟨rfl, trivial⟩, ⟨.inr ⟨rfl, trivial⟩, trivial⟩⟩⟩
  · refine ax_Wp.go (f' := (21, [some (.ref 130), some (.int p0), some (.int r1.1)], [.int r1.1])) 1 rfl ?_
    obtain rfl := inj hD
    exact ax_Wp.dead kkv2 ⟨.inl rfl, ⟨.inr ⟨rfl, trivial⟩, ⟨.inr ⟨rfl, trivial⟩, trivial⟩⟩⟩
def D212 (m : dM) (p0 : Int32) : Option (Int32 × dM) := (D206 m p0 (nI 3)).bind fun (r1 : Int32 × dM) => some (r1.1, r1.2)
set_option maxRecDepth 20000 in
theorem w_212 {X : Nat × (Nat → Int32)} {d : Nat} {m : dM} {p0 : Int32} {r : Int32 × dM} (hD : D212 m p0 = some r) : ax_Ev X (d + 4) 212 [.ref 130, .int p0] (stt m) (.inl (some (.int r.1))) (stt r.2) := by
  unfold D212 at hD
  show ax_Wp X (d + 3 + 1) 212 (0, [some (.ref 130), some (.int p0)], []) (stt m) _
  refine ax_Wp.go (f' := (3, [some (.ref 130), some (.int p0)], [.int (nI 3), .int p0, .ref 130])) 3 rfl ?_
  refine bnd hD (fun r1 hx hD => ?_)
  refine ax_Wp.callE (f' := (6, [some (.ref 130), some (.int p0)], [])) rfl rfl (w_206 (d := d + 0) hx) rfl ?_
  obtain rfl := inj hD
  exact ax_Wp.ret rfl ⟨rfl, rfl⟩
def D213 (m : dM) (p0 : Int32) : Option (Int32 × dM) := (D206 m p0 (nI 4)).bind fun (r1 : Int32 × dM) => some (r1.1, r1.2)
set_option maxRecDepth 20000 in
theorem w_213 {X : Nat × (Nat → Int32)} {d : Nat} {m : dM} {p0 : Int32} {r : Int32 × dM} (hD : D213 m p0 = some r) : ax_Ev X (d + 4) 213 [.ref 130, .int p0] (stt m) (.inl (some (.int r.1))) (stt r.2) := by
  unfold D213 at hD
  show ax_Wp X (d + 3 + 1) 213 (0, [some (.ref 130), some (.int p0)], []) (stt m) _
  refine ax_Wp.go (f' := (3, [some (.ref 130), some (.int p0)], [.int (nI 4), .int p0, .ref 130])) 3 rfl ?_
  refine bnd hD (fun r1 hx hD => ?_)
  refine ax_Wp.callE (f' := (6, [some (.ref 130), some (.int p0)], [])) rfl rfl (w_206 (d := d + 0) hx) rfl ?_
  obtain rfl := inj hD
  exact ax_Wp.ret rfl ⟨rfl, rfl⟩
def D101 (m : dM) : Option (Int32) := some (rI m 10 4)
set_option maxRecDepth 20000 in
theorem w_101 {X : Nat × (Nat → Int32)} {d : Nat} {m : dM} {r : Int32} (hD : D101 m = some r) : ax_Ev X (d + 1) 101 [.ref 0] (stt m) (.inl (some (.int r))) (stt m) := by
  unfold D101 at hD
  show ax_Wp X (d + 0 + 1) 101 (0, [some (.ref 0)], []) (stt m) _
  refine ax_Wp.go (f' := (10, [some (.ref 0)], [.int (rI m 10 4)])) 4 rfl ?_
  obtain rfl := inj hD
  exact ax_Wp.ret rfl ⟨rfl, rfl⟩
def D214 (m : dM) : Option (Int32 × dM) := (fI m 130 7 (nI 0)).bind fun (m1 : dM) => some (rI m1 131 117, m1)
set_option maxRecDepth 20000 in
theorem w_214 {X : Nat × (Nat → Int32)} {d : Nat} {m : dM} {r : Int32 × dM} (hD : D214 m = some r) : ax_Ev X (d + 1) 214 [.ref 130] (stt m) (.inl (some (.int r.1))) (stt r.2) := by
  unfold D214 at hD
  show ax_Wp X (d + 0 + 1) 214 (0, [some (.ref 130)], []) (stt m) _
  refine ax_Wp.go (f' := (2, [some (.ref 130)], [.int (nI 0), .ref 130])) 2 rfl ?_
  refine ax_Wp.ptI hD rfl rfl rfl (fun m1 hD => ?_)
  refine ax_Wp.go (f' := (12, [some (.ref 130)], [.int (rI m1 131 117)])) 4 rfl ?_
  obtain rfl := inj hD
  exact ax_Wp.ret rfl ⟨rfl, rfl⟩
def D148 (m : dM) (p0 : Int32) : Option (Int32) := (D144 p0 (nI 0) ((rI m 131 117) - (nI 1))).bind fun (x1 : Int32) => (gB x1).bind fun (b2 : Int32) => some b2
set_option maxRecDepth 20000 in
theorem w_148 {X : Nat × (Nat → Int32)} {d : Nat} {m : dM} {p0 : Int32} {r : Int32} (hD : D148 m p0 = some r) : ax_Ev X (d + 2) 148 [.ref 130, .int p0] (stt m) (.inl (some (.int r))) (stt m) := by
  unfold D148 at hD
  show ax_Wp X (d + 1 + 1) 148 (0, [some (.ref 130), some (.int p0)], []) (stt m) _
  refine ax_Wp.go (f' := (11, [some (.ref 130), some (.int p0)], [.int ((rI m 131 117) - (nI 1)), .int (nI 0), .int p0])) 8 rfl ?_
  refine bnd hD (fun x1 hx hD => ?_)
  refine ax_Wp.callE (f' := (14, [some (.ref 130), some (.int p0)], [])) rfl rfl (w_144 (d := d + 0) hx) rfl ?_
  refine ax_Wp.retB hD rfl (fun b2 hD => ?_)
  obtain rfl := inj hD
  exact ⟨rfl, rfl⟩
def D215 (m : dM) (p0 : Int32) : Option (Int32 × dM) := (D148 m p0).bind fun (x1 : Int32) => Option.bind ((if x1 = (nI 0) then some (nI 1) else some (nI 0)) : Option (Int32)) fun (v2 : Int32) => (fI m 130 7 v2).bind fun (m3 : dM) => Option.bind ((if (rI m3 130 7) = (nI 0) then (D152 m3 p0 (nI 4)).bind fun (x5 : Int32) => if x5 = (nI 0) then some (nI 1) else some (nI 0) else some (nI 0)) : Option (Int32)) fun (v4 : Int32) => (gB v4).bind fun (b6 : Int32) => some (b6, m3)
set_option maxRecDepth 20000 in
theorem w_215 {X : Nat × (Nat → Int32)} {d : Nat} {m : dM} {p0 : Int32} {r : Int32 × dM} (hD : D215 m p0 = some r) : ax_Ev X (d + 3) 215 [.ref 130, .int p0] (stt m) (.inl (some (.int r.1))) (stt r.2) := by
  unfold D215 at hD
  show ax_Wp X (d + 2 + 1) 215 (0, [some (.ref 130), some (.int p0)], []) (stt m) _
  refine ax_Wp.go (f' := (3, [some (.ref 130), some (.int p0)], [.int p0, .ref 130, .ref 130])) 3 rfl ?_
  refine bnd hD (fun x1 hx hD => ?_)
  refine ax_Wp.callE (f' := (6, [some (.ref 130), some (.int p0)], [.ref 130])) rfl rfl (w_148 (d := d + 0) hx) rfl ?_
  refine bnd hD (fun v2 hx hD => ?_)
  refine ax_Wp.jn (F := (14, [some (.ref 130), some (.int p0)], [.int v2, .ref 130])) (hh := stt m) ?_ (fun kkv2 => ?_)
  · refine ax_Wp.ptI hD rfl rfl rfl (fun m3 hD => ?_)
    refine ax_Wp.go (f' := (21, [some (.ref 130), some (.int p0)], [.int (rI m3 130 7)])) 2 rfl ?_
    refine bnd hD (fun v4 hx hD => ?_)
    refine ax_Wp.jn (F := (38, [some (.ref 130), none], [.int v4])) (hh := stt m3) ?_ (fun kkv4 => ?_)
    · refine ax_Wp.retB hD rfl (fun b6 hD => ?_)
      obtain rfl := inj hD
      exact ⟨rfl, rfl⟩
    clear hD
    have hD := hx
    clear hx
    refine ax_Wp.brD hD rfl (fun _ hD => ?_) (fun _ hD => ?_)
    · refine ax_Wp.go (f' := (27, [some (.ref 130), some (.int p0)], [.int (nI 4), .int p0, .ref 130])) 3 rfl ?_
      refine bnd hD (fun x5 hx hD => ?_)
      refine ax_Wp.callE (f' := (30, [some (.ref 130), some (.int p0)], [])) rfl rfl (w_152 (d := d + 1) hx) rfl ?_
      refine ax_Wp.brD hD rfl (fun _ hD => ?_) (fun _ hD => ?_)
      · refine ax_Wp.go (f' := (38, [some (.ref 130), some (.int p0)], [.int (nI 1)])) 2 rfl ?_
        obtain rfl := inj hD
        exact ax_Wp.dead kkv4 ⟨.inl rfl, ⟨.inr ⟨rfl, trivial⟩, trivial⟩⟩
      · refine ax_Wp.go (f' := (38, [some (.ref 130), some (.int p0)], [.int (nI 0)])) 1 rfl ?_
        obtain rfl := inj hD
        exact ax_Wp.dead kkv4 ⟨.inl rfl, ⟨.inr ⟨rfl, trivial⟩, trivial⟩⟩
    · refine ax_Wp.go (f' := (38, [some (.ref 130), some (.int p0)], [.int (nI 0)])) 1 rfl ?_
      obtain rfl := inj hD
      exact ax_Wp.dead kkv4 ⟨.inl rfl, ⟨.inr ⟨rfl, trivial⟩, trivial⟩⟩
  clear hD
  have hD := hx
  clear hx
  refine ax_Wp.brD hD rfl (fun _ hD => ?_) (fun _ hD => ?_)
  · refine ax_Wp.go (f' := (14, [some (.ref 130), some (.int p0)], [.int (nI 1), .ref 130])) 1 rfl ?_
    obtain rfl := inj hD
    exact kkv2
  · refine ax_Wp.go (f' := (14, [some (.ref 130), some (.int p0)], [.int (nI 0), .ref 130])) 2 rfl ?_
    obtain rfl := inj hD
    exact kkv2
