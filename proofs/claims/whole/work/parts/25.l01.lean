/-! THE LAW'S CASES: 1 -/
def lwK (X : Nat × (Nat → Int32)) (d : Nat) (Q : ax_O → ax_H → Prop) (i : Int32) : dM ⊕ dM → Prop
  | .inl m => ax_Wp X (d + 11 + 1) 283 (2778, [some (.retAddr 0), some (.ref 0), some (.ref 130), some (.ref 138), some (.int i), none, none, none, none], []) (stt m) Q
  | .inr m => Q (.inl (some (.int 0))) (stt m)
def C0 (X : Nat × (Nat → Int32)) (m : dM) (i : Int32) : Option (dM ⊕ dM) := (gX X (i + (nI 1))).bind fun (x1 : Int32) => (gX X (i + (nI 2))).bind fun (x2 : Int32) => (gX X (i + (nI 3))).bind fun (x3 : Int32) => Option.bind ((if x3 = (nI 0) then some (nI 0) else some (nI 1)) : Option (Int32)) fun (v4 : Int32) => (D245 m x1 x2 v4).bind fun (r5 : Int32 × dM) => (gX X (i + (nI 1))).bind fun (x6 : Int32) => (gX X (i + (nI 2))).bind fun (x7 : Int32) => (gX X (i + (nI 3))).bind fun (x8 : Int32) => Option.bind ((if x8 = (nI 0) then some (nI 0) else some (nI 1)) : Option (Int32)) fun (v9 : Int32) => (D178 r5.2 x6 x7 v9).bind fun (r10 : Int32 × dM) => (D142 r10.2).bind fun (x11 : Int32) => if x11 = r5.1 then if r5.1 = (nI 0) then (gL r10.2 138 1 (nI 0)).bind fun (x12 : Int64) => if (lg_cmp x12 r10.1.toInt64) = (nI 0) then some (.inl r10.2) else some (.inr r10.2) else some (.inl r10.2) else some (.inr r10.2)
set_option maxRecDepth 20000 in
theorem c_0 {X : Nat × (Nat → Int32)} {d : Nat} {Q : ax_O → ax_H → Prop} {m : dM} {i : Int32} {v : dM ⊕ dM} (hD : C0 X m i = some v) (kk : lwK X d Q i v) : ax_Wp X (d + 11 + 1) 283 (264, [some (.retAddr 0), some (.ref 0), some (.ref 130), some (.ref 138), some (.int i), none, none, none, none], []) (stt m) Q := by
  unfold C0 at hD
  refine ax_Wp.go (f' := (270, [some (.retAddr 0), some (.ref 0), some (.ref 130), some (.ref 138), some (.int i), none, none, none, none], [.int (i + (nI 1)), .retAddr 0, .ref 0])) 5 rfl ?_
  refine ax_Wp.rdX hD rfl (fun x1 hD => ?_)
  refine ax_Wp.go (f' := (276, [some (.retAddr 0), some (.ref 0), some (.ref 130), some (.ref 138), some (.int i), none, none, none, none], [.int (i + (nI 2)), .retAddr 0, .int x1, .ref 0])) 4 rfl ?_
  refine ax_Wp.rdX hD rfl (fun x2 hD => ?_)
  refine ax_Wp.go (f' := (282, [some (.retAddr 0), some (.ref 0), some (.ref 130), some (.ref 138), some (.int i), none, none, none, none], [.int (i + (nI 3)), .retAddr 0, .int x2, .int x1, .ref 0])) 4 rfl ?_
  refine ax_Wp.rdX hD rfl (fun x3 hD => ?_)
  refine bnd hD (fun v4 hx hD => ?_)
  refine ax_Wp.jn (F := (291, [some (.retAddr 0), some (.ref 0), some (.ref 130), some (.ref 138), some (.int i), none, none, none, none], [.int v4, .int x2, .int x1, .ref 0])) (hh := stt m) ?_ (fun kkv4 => ?_)
  · refine ax_Wp.go (f' := (292, [some (.retAddr 0), some (.ref 0), some (.ref 130), some (.ref 138), some (.int i), none, none, none, none], [.ref 138, .int v4, .int x2, .int x1, .ref 0])) 1 rfl ?_
    refine bnd hD (fun r5 hx hD => ?_)
    refine ax_Wp.callE (f' := (295, [some (.retAddr 0), some (.ref 0), some (.ref 130), some (.ref 138), some (.int i), none, none, none, none], [])) rfl rfl (w_245 (d := d + 3) hx) rfl ?_
    refine ax_Wp.go (f' := (303, [some (.retAddr 0), some (.ref 0), some (.ref 130), some (.ref 138), some (.int i), some (.int r5.1), none, none, none], [.int (i + (nI 1)), .retAddr 0, .ref 130])) 6 rfl ?_
    refine ax_Wp.rdX hD rfl (fun x6 hD => ?_)
    refine ax_Wp.go (f' := (309, [some (.retAddr 0), some (.ref 0), some (.ref 130), some (.ref 138), some (.int i), some (.int r5.1), none, none, none], [.int (i + (nI 2)), .retAddr 0, .int x6, .ref 130])) 4 rfl ?_
    refine ax_Wp.rdX hD rfl (fun x7 hD => ?_)
    refine ax_Wp.go (f' := (315, [some (.retAddr 0), some (.ref 0), some (.ref 130), some (.ref 138), some (.int i), some (.int r5.1), none, none, none], [.int (i + (nI 3)), .retAddr 0, .int x7, .int x6, .ref 130])) 4 rfl ?_
    refine ax_Wp.rdX hD rfl (fun x8 hD => ?_)
    refine bnd hD (fun v9 hx hD => ?_)
    refine ax_Wp.jn (F := (324, [some (.retAddr 0), some (.ref 0), some (.ref 130), some (.ref 138), some (.int i), some (.int r5.1), none, none, none], [.int v9, .int x7, .int x6, .ref 130])) (hh := stt r5.2) ?_ (fun kkv9 => ?_)
    · refine bnd hD (fun r10 hx hD => ?_)
      refine ax_Wp.callE (f' := (327, [some (.retAddr 0), some (.ref 0), some (.ref 130), some (.ref 138), some (.int i), some (.int r5.1), none, none, none], [])) rfl rfl (w_178 (d := d + 8) hx) rfl ?_
      refine ax_Wp.go (f' := (330, [some (.retAddr 0), some (.ref 0), some (.ref 130), some (.ref 138), some (.int i), some (.int r5.1), some (.int r10.1), none, none], [.ref 130])) 2 rfl ?_
      refine bnd hD (fun x11 hx hD => ?_)
      refine ax_Wp.callE (f' := (333, [some (.retAddr 0), some (.ref 0), some (.ref 130), some (.ref 138), some (.int i), some (.int r5.1), some (.int r10.1), none, none], [])) rfl rfl (w_142 (d := d + 10) hx) rfl ?_
      refine ax_Wp.go (f' := (335, [some (.retAddr 0), some (.ref 0), some (.ref 130), some (.ref 138), some (.int i), some (.int r5.1), some (.int r10.1), none, none], [.int r5.1, .int x11])) 1 rfl ?_
      refine ax_Wp.brD hD rfl (fun _ hD => ?_) (fun _ hD => ?_)
      · refine ax_Wp.go (f' := (342, [some (.retAddr 0), some (.ref 0), some (.ref 130), some (.ref 138), some (.int i), some (.int r5.1), some (.int r10.1), none, none], [.int r5.1])) 1 rfl ?_
        refine ax_Wp.brD hD rfl (fun _ hD => ?_) (fun _ hD => ?_)
        · refine ax_Wp.go (f' := (347, [some (.retAddr 0), some (.ref 0), some (.ref 130), some (.ref 138), some (.int i), some (.int r5.1), some (.int r10.1), none, none], [.int (nI 0), .ref 138])) 2 rfl ?_
          refine ax_Wp.rdL hD rfl rfl rfl (fun x12 hD => ?_)
          refine ax_Wp.go (f' := (352, [some (.retAddr 0), some (.ref 0), some (.ref 130), some (.ref 138), some (.int i), some (.int r5.1), some (.int r10.1), none, none], [.int (lg_cmp x12 r10.1.toInt64)])) 3 rfl ?_
          refine ax_Wp.brD hD rfl (fun _ hD => ?_) (fun _ hD => ?_)
          · refine ax_Wp.go (f' := (2778, [some (.retAddr 0), some (.ref 0), some (.ref 130), some (.ref 138), some (.int i), some (.int r5.1), some (.int r10.1), none, none], [])) 1 rfl ?_
            obtain rfl := inj hD
            exact ax_Wp.dead kk ⟨.inl rfl, ⟨.inl rfl, ⟨.inl rfl, ⟨.inl rfl, ⟨.inl rfl, ⟨.inr ⟨rfl, trivial⟩, ⟨.inr ⟨rfl, trivial⟩, ⟨.inl rfl, ⟨.inl rfl, trivial⟩⟩⟩⟩⟩⟩⟩⟩⟩
          · refine ax_Wp.go (f' := (356, [some (.retAddr 0), some (.ref 0), some (.ref 130), some (.ref 138), some (.int i), some (.int r5.1), some (.int r10.1), none, none], [.int (nI 0)])) 1 rfl ?_
            obtain rfl := inj hD
            exact ax_Wp.ret rfl kk
        · refine ax_Wp.go (f' := (2778, [some (.retAddr 0), some (.ref 0), some (.ref 130), some (.ref 138), some (.int i), some (.int r5.1), some (.int r10.1), none, none], [])) 1 rfl ?_
          obtain rfl := inj hD
          exact ax_Wp.dead kk ⟨.inl rfl, ⟨.inl rfl, ⟨.inl rfl, ⟨.inl rfl, ⟨.inl rfl, ⟨.inr ⟨rfl, trivial⟩, ⟨.inr ⟨rfl, trivial⟩, ⟨.inl rfl, ⟨.inl rfl, trivial⟩⟩⟩⟩⟩⟩⟩⟩⟩
      · refine ax_Wp.go (f' := (339, [some (.retAddr 0), some (.ref 0), some (.ref 130), some (.ref 138), some (.int i), some (.int r5.1), some (.int r10.1), none, none], [.int (nI 0)])) 1 rfl ?_
        obtain rfl := inj hD
        exact ax_Wp.ret rfl kk
    clear hD
    have hD := hx
    clear hx
    refine ax_Wp.brD hD rfl (fun _ hD => ?_) (fun _ hD => ?_)
    · refine ax_Wp.go (f' := (324, [some (.retAddr 0), some (.ref 0), some (.ref 130), some (.ref 138), some (.int i), some (.int r5.1), none, none, none], [.int (nI 0), .int x7, .int x6, .ref 130])) 1 rfl ?_
      obtain rfl := inj hD
      exact kkv9
    · refine ax_Wp.go (f' := (324, [some (.retAddr 0), some (.ref 0), some (.ref 130), some (.ref 138), some (.int i), some (.int r5.1), none, none, none], [.int (nI 1), .int x7, .int x6, .ref 130])) 2 rfl ?_
      obtain rfl := inj hD
      exact kkv9
  clear hD
  have hD := hx
  clear hx
  refine ax_Wp.brD hD rfl (fun _ hD => ?_) (fun _ hD => ?_)
  · refine ax_Wp.go (f' := (291, [some (.retAddr 0), some (.ref 0), some (.ref 130), some (.ref 138), some (.int i), none, none, none, none], [.int (nI 0), .int x2, .int x1, .ref 0])) 1 rfl ?_
    obtain rfl := inj hD
    exact kkv4
  · refine ax_Wp.go (f' := (291, [some (.retAddr 0), some (.ref 0), some (.ref 130), some (.ref 138), some (.int i), none, none, none, none], [.int (nI 1), .int x2, .int x1, .ref 0])) 2 rfl ?_
    obtain rfl := inj hD
    exact kkv4
def C1 (X : Nat × (Nat → Int32)) (m : dM) (i : Int32) : Option (dM ⊕ dM) := (gX X (i + (nI 1))).bind fun (x1 : Int32) => (D246 m x1).bind fun (r2 : Int32 × dM) => (gX X (i + (nI 1))).bind fun (x3 : Int32) => (D179 r2.2 x3).bind fun (r4 : Int32 × dM) => (D142 r4.2).bind fun (x5 : Int32) => if x5 = r2.1 then if r2.1 = (nI 0) then (gL r4.2 138 1 (nI 0)).bind fun (x6 : Int64) => Option.bind ((if r4.1 = (nI 0) then some (0 : Int64) else some (1 : Int64)) : Option (Int64)) fun (v7 : Int64) => if (lg_cmp x6 v7) = (nI 0) then some (.inl r4.2) else some (.inr r4.2) else some (.inl r4.2) else some (.inr r4.2)
set_option maxRecDepth 20000 in
theorem c_1 {X : Nat × (Nat → Int32)} {d : Nat} {Q : ax_O → ax_H → Prop} {m : dM} {i : Int32} {v : dM ⊕ dM} (hD : C1 X m i = some v) (kk : lwK X d Q i v) : ax_Wp X (d + 11 + 1) 283 (360, [some (.retAddr 0), some (.ref 0), some (.ref 130), some (.ref 138), some (.int i), none, none, none, none], []) (stt m) Q := by
  unfold C1 at hD
  refine ax_Wp.go (f' := (366, [some (.retAddr 0), some (.ref 0), some (.ref 130), some (.ref 138), some (.int i), none, none, none, none], [.int (i + (nI 1)), .retAddr 0, .ref 0])) 5 rfl ?_
  refine ax_Wp.rdX hD rfl (fun x1 hD => ?_)
  refine ax_Wp.go (f' := (368, [some (.retAddr 0), some (.ref 0), some (.ref 130), some (.ref 138), some (.int i), none, none, none, none], [.ref 138, .int x1, .ref 0])) 1 rfl ?_
  refine bnd hD (fun r2 hx hD => ?_)
  refine ax_Wp.callE (f' := (371, [some (.retAddr 0), some (.ref 0), some (.ref 130), some (.ref 138), some (.int i), none, none, none, none], [])) rfl rfl (w_246 (d := d + 3) hx) rfl ?_
  refine ax_Wp.go (f' := (379, [some (.retAddr 0), some (.ref 0), some (.ref 130), some (.ref 138), some (.int i), some (.int r2.1), none, none, none], [.int (i + (nI 1)), .retAddr 0, .ref 130])) 6 rfl ?_
  refine ax_Wp.rdX hD rfl (fun x3 hD => ?_)
  refine bnd hD (fun r4 hx hD => ?_)
  refine ax_Wp.callE (f' := (383, [some (.retAddr 0), some (.ref 0), some (.ref 130), some (.ref 138), some (.int i), some (.int r2.1), none, none, none], [])) rfl rfl (w_179 (d := d + 8) hx) rfl ?_
  refine ax_Wp.go (f' := (386, [some (.retAddr 0), some (.ref 0), some (.ref 130), some (.ref 138), some (.int i), some (.int r2.1), some (.int r4.1), none, none], [.ref 130])) 2 rfl ?_
  refine bnd hD (fun x5 hx hD => ?_)
  refine ax_Wp.callE (f' := (389, [some (.retAddr 0), some (.ref 0), some (.ref 130), some (.ref 138), some (.int i), some (.int r2.1), some (.int r4.1), none, none], [])) rfl rfl (w_142 (d := d + 10) hx) rfl ?_
  refine ax_Wp.go (f' := (391, [some (.retAddr 0), some (.ref 0), some (.ref 130), some (.ref 138), some (.int i), some (.int r2.1), some (.int r4.1), none, none], [.int r2.1, .int x5])) 1 rfl ?_
  refine ax_Wp.brD hD rfl (fun _ hD => ?_) (fun _ hD => ?_)
  · refine ax_Wp.go (f' := (398, [some (.retAddr 0), some (.ref 0), some (.ref 130), some (.ref 138), some (.int i), some (.int r2.1), some (.int r4.1), none, none], [.int r2.1])) 1 rfl ?_
    refine ax_Wp.brD hD rfl (fun _ hD => ?_) (fun _ hD => ?_)
    · refine ax_Wp.go (f' := (403, [some (.retAddr 0), some (.ref 0), some (.ref 130), some (.ref 138), some (.int i), some (.int r2.1), some (.int r4.1), none, none], [.int (nI 0), .ref 138])) 2 rfl ?_
      refine ax_Wp.rdL hD rfl rfl rfl (fun x6 hD => ?_)
      refine ax_Wp.go (f' := (406, [some (.retAddr 0), some (.ref 0), some (.ref 130), some (.ref 138), some (.int i), some (.int r2.1), some (.int r4.1), none, none], [.int r4.1, .long x6])) 1 rfl ?_
      refine bnd hD (fun v7 hx hD => ?_)
      refine ax_Wp.jn (F := (414, [some (.retAddr 0), some (.ref 0), some (.ref 130), some (.ref 138), some (.int i), none, none, none, none], [.long v7, .long x6])) (hh := stt r4.2) ?_ (fun kkv7 => ?_)
      · refine ax_Wp.go (f' := (415, [some (.retAddr 0), some (.ref 0), some (.ref 130), some (.ref 138), some (.int i), none, none, none, none], [.int (lg_cmp x6 v7)])) 1 rfl ?_
        refine ax_Wp.brD hD rfl (fun _ hD => ?_) (fun _ hD => ?_)
        · refine ax_Wp.go (f' := (2778, [some (.retAddr 0), some (.ref 0), some (.ref 130), some (.ref 138), some (.int i), none, none, none, none], [])) 1 rfl ?_
          obtain rfl := inj hD
          exact kk
        · refine ax_Wp.go (f' := (419, [some (.retAddr 0), some (.ref 0), some (.ref 130), some (.ref 138), some (.int i), none, none, none, none], [.int (nI 0)])) 1 rfl ?_
          obtain rfl := inj hD
          exact ax_Wp.ret rfl kk
      clear hD
      have hD := hx
      clear hx
      refine ax_Wp.brD hD rfl (fun _ hD => ?_) (fun _ hD => ?_)
      · refine ax_Wp.go (f' := (414, [some (.retAddr 0), some (.ref 0), some (.ref 130), some (.ref 138), some (.int i), some (.int r2.1), some (.int r4.1), none, none], [.long (0 : Int64), .long x6])) 1 rfl ?_
        obtain rfl := inj hD
        exact ax_Wp.dead kkv7 ⟨.inl rfl, ⟨.inl rfl, ⟨.inl rfl, ⟨.inl rfl, ⟨.inl rfl, ⟨.inr ⟨rfl, trivial⟩, ⟨.inr ⟨rfl, trivial⟩, ⟨.inl rfl, ⟨.inl rfl, trivial⟩⟩⟩⟩⟩⟩⟩⟩⟩
      · refine ax_Wp.go (f' := (414, [some (.retAddr 0), some (.ref 0), some (.ref 130), some (.ref 138), some (.int i), some (.int r2.1), some (.int r4.1), none, none], [.long (1 : Int64), .long x6])) 2 rfl ?_
        obtain rfl := inj hD
        exact ax_Wp.dead kkv7 ⟨.inl rfl, ⟨.inl rfl, ⟨.inl rfl, ⟨.inl rfl, ⟨.inl rfl, ⟨.inr ⟨rfl, trivial⟩, ⟨.inr ⟨rfl, trivial⟩, ⟨.inl rfl, ⟨.inl rfl, trivial⟩⟩⟩⟩⟩⟩⟩⟩⟩
    · refine ax_Wp.go (f' := (2778, [some (.retAddr 0), some (.ref 0), some (.ref 130), some (.ref 138), some (.int i), some (.int r2.1), some (.int r4.1), none, none], [])) 1 rfl ?_
      obtain rfl := inj hD
      exact ax_Wp.dead kk ⟨.inl rfl, ⟨.inl rfl, ⟨.inl rfl, ⟨.inl rfl, ⟨.inl rfl, ⟨.inr ⟨rfl, trivial⟩, ⟨.inr ⟨rfl, trivial⟩, ⟨.inl rfl, ⟨.inl rfl, trivial⟩⟩⟩⟩⟩⟩⟩⟩⟩
  · refine ax_Wp.go (f' := (395, [some (.retAddr 0), some (.ref 0), some (.ref 130), some (.ref 138), some (.int i), some (.int r2.1), some (.int r4.1), none, none], [.int (nI 0)])) 1 rfl ?_
    obtain rfl := inj hD
    exact ax_Wp.ret rfl kk
def C2 (X : Nat × (Nat → Int32)) (m : dM) (i : Int32) : Option (dM ⊕ dM) := (gX X (i + (nI 1))).bind fun (x1 : Int32) => (gX X (i + (nI 2))).bind fun (x2 : Int32) => (D247 m x1 x2).bind fun (r3 : Int32 × dM) => (gX X (i + (nI 1))).bind fun (x4 : Int32) => (gX X (i + (nI 2))).bind fun (x5 : Int32) => (D180 r3.2 x4 x5).bind fun (r6 : Int32 × dM) => (D142 r6.2).bind fun (x7 : Int32) => if x7 = r3.1 then if r3.1 = (nI 0) then (gL r6.2 138 1 (nI 0)).bind fun (x8 : Int64) => if (lg_cmp x8 r6.1.toInt64) = (nI 0) then some (.inl r6.2) else some (.inr r6.2) else some (.inl r6.2) else some (.inr r6.2)
set_option maxRecDepth 20000 in
theorem c_2 {X : Nat × (Nat → Int32)} {d : Nat} {Q : ax_O → ax_H → Prop} {m : dM} {i : Int32} {v : dM ⊕ dM} (hD : C2 X m i = some v) (kk : lwK X d Q i v) : ax_Wp X (d + 11 + 1) 283 (423, [some (.retAddr 0), some (.ref 0), some (.ref 130), some (.ref 138), some (.int i), none, none, none, none], []) (stt m) Q := by
  unfold C2 at hD
  refine ax_Wp.go (f' := (429, [some (.retAddr 0), some (.ref 0), some (.ref 130), some (.ref 138), some (.int i), none, none, none, none], [.int (i + (nI 1)), .retAddr 0, .ref 0])) 5 rfl ?_
  refine ax_Wp.rdX hD rfl (fun x1 hD => ?_)
  refine ax_Wp.go (f' := (435, [some (.retAddr 0), some (.ref 0), some (.ref 130), some (.ref 138), some (.int i), none, none, none, none], [.int (i + (nI 2)), .retAddr 0, .int x1, .ref 0])) 4 rfl ?_
  refine ax_Wp.rdX hD rfl (fun x2 hD => ?_)
  refine ax_Wp.go (f' := (437, [some (.retAddr 0), some (.ref 0), some (.ref 130), some (.ref 138), some (.int i), none, none, none, none], [.ref 138, .int x2, .int x1, .ref 0])) 1 rfl ?_
  refine bnd hD (fun r3 hx hD => ?_)
  refine ax_Wp.callE (f' := (440, [some (.retAddr 0), some (.ref 0), some (.ref 130), some (.ref 138), some (.int i), none, none, none, none], [])) rfl rfl (w_247 (d := d + 3) hx) rfl ?_
  refine ax_Wp.go (f' := (448, [some (.retAddr 0), some (.ref 0), some (.ref 130), some (.ref 138), some (.int i), some (.int r3.1), none, none, none], [.int (i + (nI 1)), .retAddr 0, .ref 130])) 6 rfl ?_
  refine ax_Wp.rdX hD rfl (fun x4 hD => ?_)
  refine ax_Wp.go (f' := (454, [some (.retAddr 0), some (.ref 0), some (.ref 130), some (.ref 138), some (.int i), some (.int r3.1), none, none, none], [.int (i + (nI 2)), .retAddr 0, .int x4, .ref 130])) 4 rfl ?_
  refine ax_Wp.rdX hD rfl (fun x5 hD => ?_)
  refine bnd hD (fun r6 hx hD => ?_)
  refine ax_Wp.callE (f' := (458, [some (.retAddr 0), some (.ref 0), some (.ref 130), some (.ref 138), some (.int i), some (.int r3.1), none, none, none], [])) rfl rfl (w_180 (d := d + 5) hx) rfl ?_
  refine ax_Wp.go (f' := (461, [some (.retAddr 0), some (.ref 0), some (.ref 130), some (.ref 138), some (.int i), some (.int r3.1), some (.int r6.1), none, none], [.ref 130])) 2 rfl ?_
  refine bnd hD (fun x7 hx hD => ?_)
  refine ax_Wp.callE (f' := (464, [some (.retAddr 0), some (.ref 0), some (.ref 130), some (.ref 138), some (.int i), some (.int r3.1), some (.int r6.1), none, none], [])) rfl rfl (w_142 (d := d + 10) hx) rfl ?_
  refine ax_Wp.go (f' := (466, [some (.retAddr 0), some (.ref 0), some (.ref 130), some (.ref 138), some (.int i), some (.int r3.1), some (.int r6.1), none, none], [.int r3.1, .int x7])) 1 rfl ?_
  refine ax_Wp.brD hD rfl (fun _ hD => ?_) (fun _ hD => ?_)
  · refine ax_Wp.go (f' := (473, [some (.retAddr 0), some (.ref 0), some (.ref 130), some (.ref 138), some (.int i), some (.int r3.1), some (.int r6.1), none, none], [.int r3.1])) 1 rfl ?_
    refine ax_Wp.brD hD rfl (fun _ hD => ?_) (fun _ hD => ?_)
    · refine ax_Wp.go (f' := (478, [some (.retAddr 0), some (.ref 0), some (.ref 130), some (.ref 138), some (.int i), some (.int r3.1), some (.int r6.1), none, none], [.int (nI 0), .ref 138])) 2 rfl ?_
      refine ax_Wp.rdL hD rfl rfl rfl (fun x8 hD => ?_)
      refine ax_Wp.go (f' := (483, [some (.retAddr 0), some (.ref 0), some (.ref 130), some (.ref 138), some (.int i), some (.int r3.1), some (.int r6.1), none, none], [.int (lg_cmp x8 r6.1.toInt64)])) 3 rfl ?_
      refine ax_Wp.brD hD rfl (fun _ hD => ?_) (fun _ hD => ?_)
      · refine ax_Wp.go (f' := (2778, [some (.retAddr 0), some (.ref 0), some (.ref 130), some (.ref 138), some (.int i), some (.int r3.1), some (.int r6.1), none, none], [])) 1 rfl ?_
        obtain rfl := inj hD
        exact ax_Wp.dead kk ⟨.inl rfl, ⟨.inl rfl, ⟨.inl rfl, ⟨.inl rfl, ⟨.inl rfl, ⟨.inr ⟨rfl, trivial⟩, ⟨.inr ⟨rfl, trivial⟩, ⟨.inl rfl, ⟨.inl rfl, trivial⟩⟩⟩⟩⟩⟩⟩⟩⟩
      · refine ax_Wp.go (f' := (487, [some (.retAddr 0), some (.ref 0), some (.ref 130), some (.ref 138), some (.int i), some (.int r3.1), some (.int r6.1), none, none], [.int (nI 0)])) 1 rfl ?_
        obtain rfl := inj hD
        exact ax_Wp.ret rfl kk
    · refine ax_Wp.go (f' := (2778, [some (.retAddr 0), some (.ref 0), some (.ref 130), some (.ref 138), some (.int i), some (.int r3.1), some (.int r6.1), none, none], [])) 1 rfl ?_
      obtain rfl := inj hD
      exact ax_Wp.dead kk ⟨.inl rfl, ⟨.inl rfl, ⟨.inl rfl, ⟨.inl rfl, ⟨.inl rfl, ⟨.inr ⟨rfl, trivial⟩, ⟨.inr ⟨rfl, trivial⟩, ⟨.inl rfl, ⟨.inl rfl, trivial⟩⟩⟩⟩⟩⟩⟩⟩⟩
  · refine ax_Wp.go (f' := (470, [some (.retAddr 0), some (.ref 0), some (.ref 130), some (.ref 138), some (.int i), some (.int r3.1), some (.int r6.1), none, none], [.int (nI 0)])) 1 rfl ?_
    obtain rfl := inj hD
    exact ax_Wp.ret rfl kk
def C3 (X : Nat × (Nat → Int32)) (m : dM) (i : Int32) : Option (dM ⊕ dM) := (gX X (i + (nI 1))).bind fun (x1 : Int32) => (D248 m x1).bind fun (r2 : Int32 × dM) => (gX X (i + (nI 1))).bind fun (x3 : Int32) => (D181 r2.2 x3).bind fun (r4 : Int32 × dM) => (D142 r4.2).bind fun (x5 : Int32) => if x5 = r2.1 then if r2.1 = (nI 0) then (gL r4.2 138 1 (nI 0)).bind fun (x6 : Int64) => Option.bind ((if r4.1 = (nI 0) then some (0 : Int64) else some (1 : Int64)) : Option (Int64)) fun (v7 : Int64) => if (lg_cmp x6 v7) = (nI 0) then some (.inl r4.2) else some (.inr r4.2) else some (.inl r4.2) else some (.inr r4.2)
set_option maxRecDepth 20000 in
theorem c_3 {X : Nat × (Nat → Int32)} {d : Nat} {Q : ax_O → ax_H → Prop} {m : dM} {i : Int32} {v : dM ⊕ dM} (hD : C3 X m i = some v) (kk : lwK X d Q i v) : ax_Wp X (d + 11 + 1) 283 (491, [some (.retAddr 0), some (.ref 0), some (.ref 130), some (.ref 138), some (.int i), none, none, none, none], []) (stt m) Q := by
  unfold C3 at hD
  refine ax_Wp.go (f' := (497, [some (.retAddr 0), some (.ref 0), some (.ref 130), some (.ref 138), some (.int i), none, none, none, none], [.int (i + (nI 1)), .retAddr 0, .ref 0])) 5 rfl ?_
  refine ax_Wp.rdX hD rfl (fun x1 hD => ?_)
  refine ax_Wp.go (f' := (499, [some (.retAddr 0), some (.ref 0), some (.ref 130), some (.ref 138), some (.int i), none, none, none, none], [.ref 138, .int x1, .ref 0])) 1 rfl ?_
  refine bnd hD (fun r2 hx hD => ?_)
  refine ax_Wp.callE (f' := (502, [some (.retAddr 0), some (.ref 0), some (.ref 130), some (.ref 138), some (.int i), none, none, none, none], [])) rfl rfl (w_248 (d := d + 3) hx) rfl ?_
  refine ax_Wp.go (f' := (510, [some (.retAddr 0), some (.ref 0), some (.ref 130), some (.ref 138), some (.int i), some (.int r2.1), none, none, none], [.int (i + (nI 1)), .retAddr 0, .ref 130])) 6 rfl ?_
  refine ax_Wp.rdX hD rfl (fun x3 hD => ?_)
  refine bnd hD (fun r4 hx hD => ?_)
  refine ax_Wp.callE (f' := (514, [some (.retAddr 0), some (.ref 0), some (.ref 130), some (.ref 138), some (.int i), some (.int r2.1), none, none, none], [])) rfl rfl (w_181 (d := d + 8) hx) rfl ?_
  refine ax_Wp.go (f' := (517, [some (.retAddr 0), some (.ref 0), some (.ref 130), some (.ref 138), some (.int i), some (.int r2.1), some (.int r4.1), none, none], [.ref 130])) 2 rfl ?_
  refine bnd hD (fun x5 hx hD => ?_)
  refine ax_Wp.callE (f' := (520, [some (.retAddr 0), some (.ref 0), some (.ref 130), some (.ref 138), some (.int i), some (.int r2.1), some (.int r4.1), none, none], [])) rfl rfl (w_142 (d := d + 10) hx) rfl ?_
  refine ax_Wp.go (f' := (522, [some (.retAddr 0), some (.ref 0), some (.ref 130), some (.ref 138), some (.int i), some (.int r2.1), some (.int r4.1), none, none], [.int r2.1, .int x5])) 1 rfl ?_
  refine ax_Wp.brD hD rfl (fun _ hD => ?_) (fun _ hD => ?_)
  · refine ax_Wp.go (f' := (529, [some (.retAddr 0), some (.ref 0), some (.ref 130), some (.ref 138), some (.int i), some (.int r2.1), some (.int r4.1), none, none], [.int r2.1])) 1 rfl ?_
    refine ax_Wp.brD hD rfl (fun _ hD => ?_) (fun _ hD => ?_)
    · refine ax_Wp.go (f' := (534, [some (.retAddr 0), some (.ref 0), some (.ref 130), some (.ref 138), some (.int i), some (.int r2.1), some (.int r4.1), none, none], [.int (nI 0), .ref 138])) 2 rfl ?_
      refine ax_Wp.rdL hD rfl rfl rfl (fun x6 hD => ?_)
      refine ax_Wp.go (f' := (537, [some (.retAddr 0), some (.ref 0), some (.ref 130), some (.ref 138), some (.int i), some (.int r2.1), some (.int r4.1), none, none], [.int r4.1, .long x6])) 1 rfl ?_
      refine bnd hD (fun v7 hx hD => ?_)
      refine ax_Wp.jn (F := (545, [some (.retAddr 0), some (.ref 0), some (.ref 130), some (.ref 138), some (.int i), none, none, none, none], [.long v7, .long x6])) (hh := stt r4.2) ?_ (fun kkv7 => ?_)
      · refine ax_Wp.go (f' := (546, [some (.retAddr 0), some (.ref 0), some (.ref 130), some (.ref 138), some (.int i), none, none, none, none], [.int (lg_cmp x6 v7)])) 1 rfl ?_
        refine ax_Wp.brD hD rfl (fun _ hD => ?_) (fun _ hD => ?_)
        · refine ax_Wp.go (f' := (2778, [some (.retAddr 0), some (.ref 0), some (.ref 130), some (.ref 138), some (.int i), none, none, none, none], [])) 1 rfl ?_
          obtain rfl := inj hD
          exact kk
        · refine ax_Wp.go (f' := (550, [some (.retAddr 0), some (.ref 0), some (.ref 130), some (.ref 138), some (.int i), none, none, none, none], [.int (nI 0)])) 1 rfl ?_
          obtain rfl := inj hD
          exact ax_Wp.ret rfl kk
      clear hD
      have hD := hx
      clear hx
      refine ax_Wp.brD hD rfl (fun _ hD => ?_) (fun _ hD => ?_)
      · refine ax_Wp.go (f' := (545, [some (.retAddr 0), some (.ref 0), some (.ref 130), some (.ref 138), some (.int i), some (.int r2.1), some (.int r4.1), none, none], [.long (0 : Int64), .long x6])) 1 rfl ?_
        obtain rfl := inj hD
        exact ax_Wp.dead kkv7 ⟨.inl rfl, ⟨.inl rfl, ⟨.inl rfl, ⟨.inl rfl, ⟨.inl rfl, ⟨.inr ⟨rfl, trivial⟩, ⟨.inr ⟨rfl, trivial⟩, ⟨.inl rfl, ⟨.inl rfl, trivial⟩⟩⟩⟩⟩⟩⟩⟩⟩
      · refine ax_Wp.go (f' := (545, [some (.retAddr 0), some (.ref 0), some (.ref 130), some (.ref 138), some (.int i), some (.int r2.1), some (.int r4.1), none, none], [.long (1 : Int64), .long x6])) 2 rfl ?_
        obtain rfl := inj hD
        exact ax_Wp.dead kkv7 ⟨.inl rfl, ⟨.inl rfl, ⟨.inl rfl, ⟨.inl rfl, ⟨.inl rfl, ⟨.inr ⟨rfl, trivial⟩, ⟨.inr ⟨rfl, trivial⟩, ⟨.inl rfl, ⟨.inl rfl, trivial⟩⟩⟩⟩⟩⟩⟩⟩⟩
    · refine ax_Wp.go (f' := (2778, [some (.retAddr 0), some (.ref 0), some (.ref 130), some (.ref 138), some (.int i), some (.int r2.1), some (.int r4.1), none, none], [])) 1 rfl ?_
      obtain rfl := inj hD
      exact ax_Wp.dead kk ⟨.inl rfl, ⟨.inl rfl, ⟨.inl rfl, ⟨.inl rfl, ⟨.inl rfl, ⟨.inr ⟨rfl, trivial⟩, ⟨.inr ⟨rfl, trivial⟩, ⟨.inl rfl, ⟨.inl rfl, trivial⟩⟩⟩⟩⟩⟩⟩⟩⟩
  · refine ax_Wp.go (f' := (526, [some (.retAddr 0), some (.ref 0), some (.ref 130), some (.ref 138), some (.int i), some (.int r2.1), some (.int r4.1), none, none], [.int (nI 0)])) 1 rfl ?_
    obtain rfl := inj hD
    exact ax_Wp.ret rfl kk
def C4 (X : Nat × (Nat → Int32)) (m : dM) (i : Int32) : Option (dM ⊕ dM) := (gX X (i + (nI 1))).bind fun (x1 : Int32) => (D249 m x1).bind fun (r2 : Int32 × dM) => (gX X (i + (nI 1))).bind fun (x3 : Int32) => (D182 r2.2 x3).bind fun (r4 : Int32 × dM) => (D142 r4.2).bind fun (x5 : Int32) => if x5 = r2.1 then if r2.1 = (nI 0) then (gL r4.2 138 1 (nI 0)).bind fun (x6 : Int64) => if (lg_cmp x6 r4.1.toInt64) = (nI 0) then some (.inl r4.2) else some (.inr r4.2) else some (.inl r4.2) else some (.inr r4.2)
set_option maxRecDepth 20000 in
theorem c_4 {X : Nat × (Nat → Int32)} {d : Nat} {Q : ax_O → ax_H → Prop} {m : dM} {i : Int32} {v : dM ⊕ dM} (hD : C4 X m i = some v) (kk : lwK X d Q i v) : ax_Wp X (d + 11 + 1) 283 (554, [some (.retAddr 0), some (.ref 0), some (.ref 130), some (.ref 138), some (.int i), none, none, none, none], []) (stt m) Q := by
  unfold C4 at hD
  refine ax_Wp.go (f' := (560, [some (.retAddr 0), some (.ref 0), some (.ref 130), some (.ref 138), some (.int i), none, none, none, none], [.int (i + (nI 1)), .retAddr 0, .ref 0])) 5 rfl ?_
  refine ax_Wp.rdX hD rfl (fun x1 hD => ?_)
  refine ax_Wp.go (f' := (562, [some (.retAddr 0), some (.ref 0), some (.ref 130), some (.ref 138), some (.int i), none, none, none, none], [.ref 138, .int x1, .ref 0])) 1 rfl ?_
  refine bnd hD (fun r2 hx hD => ?_)
  refine ax_Wp.callE (f' := (565, [some (.retAddr 0), some (.ref 0), some (.ref 130), some (.ref 138), some (.int i), none, none, none, none], [])) rfl rfl (w_249 (d := d + 4) hx) rfl ?_
  refine ax_Wp.go (f' := (573, [some (.retAddr 0), some (.ref 0), some (.ref 130), some (.ref 138), some (.int i), some (.int r2.1), none, none, none], [.int (i + (nI 1)), .retAddr 0, .ref 130])) 6 rfl ?_
  refine ax_Wp.rdX hD rfl (fun x3 hD => ?_)
  refine bnd hD (fun r4 hx hD => ?_)
  refine ax_Wp.callE (f' := (577, [some (.retAddr 0), some (.ref 0), some (.ref 130), some (.ref 138), some (.int i), some (.int r2.1), none, none, none], [])) rfl rfl (w_182 (d := d + 8) hx) rfl ?_
  refine ax_Wp.go (f' := (580, [some (.retAddr 0), some (.ref 0), some (.ref 130), some (.ref 138), some (.int i), some (.int r2.1), some (.int r4.1), none, none], [.ref 130])) 2 rfl ?_
  refine bnd hD (fun x5 hx hD => ?_)
  refine ax_Wp.callE (f' := (583, [some (.retAddr 0), some (.ref 0), some (.ref 130), some (.ref 138), some (.int i), some (.int r2.1), some (.int r4.1), none, none], [])) rfl rfl (w_142 (d := d + 10) hx) rfl ?_
  refine ax_Wp.go (f' := (585, [some (.retAddr 0), some (.ref 0), some (.ref 130), some (.ref 138), some (.int i), some (.int r2.1), some (.int r4.1), none, none], [.int r2.1, .int x5])) 1 rfl ?_
  refine ax_Wp.brD hD rfl (fun _ hD => ?_) (fun _ hD => ?_)
  · refine ax_Wp.go (f' := (592, [some (.retAddr 0), some (.ref 0), some (.ref 130), some (.ref 138), some (.int i), some (.int r2.1), some (.int r4.1), none, none], [.int r2.1])) 1 rfl ?_
    refine ax_Wp.brD hD rfl (fun _ hD => ?_) (fun _ hD => ?_)
    · refine ax_Wp.go (f' := (597, [some (.retAddr 0), some (.ref 0), some (.ref 130), some (.ref 138), some (.int i), some (.int r2.1), some (.int r4.1), none, none], [.int (nI 0), .ref 138])) 2 rfl ?_
      refine ax_Wp.rdL hD rfl rfl rfl (fun x6 hD => ?_)
      refine ax_Wp.go (f' := (602, [some (.retAddr 0), some (.ref 0), some (.ref 130), some (.ref 138), some (.int i), some (.int r2.1), some (.int r4.1), none, none], [.int (lg_cmp x6 r4.1.toInt64)])) 3 rfl ?_
      refine ax_Wp.brD hD rfl (fun _ hD => ?_) (fun _ hD => ?_)
      · refine ax_Wp.go (f' := (2778, [some (.retAddr 0), some (.ref 0), some (.ref 130), some (.ref 138), some (.int i), some (.int r2.1), some (.int r4.1), none, none], [])) 1 rfl ?_
        obtain rfl := inj hD
        exact ax_Wp.dead kk ⟨.inl rfl, ⟨.inl rfl, ⟨.inl rfl, ⟨.inl rfl, ⟨.inl rfl, ⟨.inr ⟨rfl, trivial⟩, ⟨.inr ⟨rfl, trivial⟩, ⟨.inl rfl, ⟨.inl rfl, trivial⟩⟩⟩⟩⟩⟩⟩⟩⟩
      · refine ax_Wp.go (f' := (606, [some (.retAddr 0), some (.ref 0), some (.ref 130), some (.ref 138), some (.int i), some (.int r2.1), some (.int r4.1), none, none], [.int (nI 0)])) 1 rfl ?_
        obtain rfl := inj hD
        exact ax_Wp.ret rfl kk
    · refine ax_Wp.go (f' := (2778, [some (.retAddr 0), some (.ref 0), some (.ref 130), some (.ref 138), some (.int i), some (.int r2.1), some (.int r4.1), none, none], [])) 1 rfl ?_
      obtain rfl := inj hD
      exact ax_Wp.dead kk ⟨.inl rfl, ⟨.inl rfl, ⟨.inl rfl, ⟨.inl rfl, ⟨.inl rfl, ⟨.inr ⟨rfl, trivial⟩, ⟨.inr ⟨rfl, trivial⟩, ⟨.inl rfl, ⟨.inl rfl, trivial⟩⟩⟩⟩⟩⟩⟩⟩⟩
  · refine ax_Wp.go (f' := (589, [some (.retAddr 0), some (.ref 0), some (.ref 130), some (.ref 138), some (.int i), some (.int r2.1), some (.int r4.1), none, none], [.int (nI 0)])) 1 rfl ?_
    obtain rfl := inj hD
    exact ax_Wp.ret rfl kk
def C5 (X : Nat × (Nat → Int32)) (m : dM) (i : Int32) : Option (dM ⊕ dM) := (gX X (i + (nI 1))).bind fun (x1 : Int32) => (gX X (i + (nI 2))).bind fun (x2 : Int32) => (gX X (i + (nI 3))).bind fun (x3 : Int32) => (gX X (i + (nI 4))).bind fun (x4 : Int32) => (D250 m x1 x2 x3 x4).bind fun (r5 : Int32 × dM) => (gX X (i + (nI 1))).bind fun (x6 : Int32) => (gX X (i + (nI 2))).bind fun (x7 : Int32) => (gX X (i + (nI 3))).bind fun (x8 : Int32) => (gX X (i + (nI 4))).bind fun (x9 : Int32) => (D183 r5.2 x6 x7 x8 x9).bind fun (r10 : Int32 × dM) => (D142 r10.2).bind fun (x11 : Int32) => if x11 = r5.1 then if r5.1 = (nI 0) then (gL r10.2 138 1 (nI 0)).bind fun (x12 : Int64) => if (lg_cmp x12 r10.1.toInt64) = (nI 0) then some (.inl r10.2) else some (.inr r10.2) else some (.inl r10.2) else some (.inr r10.2)
set_option maxRecDepth 20000 in
theorem c_5 {X : Nat × (Nat → Int32)} {d : Nat} {Q : ax_O → ax_H → Prop} {m : dM} {i : Int32} {v : dM ⊕ dM} (hD : C5 X m i = some v) (kk : lwK X d Q i v) : ax_Wp X (d + 11 + 1) 283 (610, [some (.retAddr 0), some (.ref 0), some (.ref 130), some (.ref 138), some (.int i), none, none, none, none], []) (stt m) Q := by
  unfold C5 at hD
  refine ax_Wp.go (f' := (616, [some (.retAddr 0), some (.ref 0), some (.ref 130), some (.ref 138), some (.int i), none, none, none, none], [.int (i + (nI 1)), .retAddr 0, .ref 0])) 5 rfl ?_
  refine ax_Wp.rdX hD rfl (fun x1 hD => ?_)
  refine ax_Wp.go (f' := (622, [some (.retAddr 0), some (.ref 0), some (.ref 130), some (.ref 138), some (.int i), none, none, none, none], [.int (i + (nI 2)), .retAddr 0, .int x1, .ref 0])) 4 rfl ?_
  refine ax_Wp.rdX hD rfl (fun x2 hD => ?_)
  refine ax_Wp.go (f' := (628, [some (.retAddr 0), some (.ref 0), some (.ref 130), some (.ref 138), some (.int i), none, none, none, none], [.int (i + (nI 3)), .retAddr 0, .int x2, .int x1, .ref 0])) 4 rfl ?_
  refine ax_Wp.rdX hD rfl (fun x3 hD => ?_)
  refine ax_Wp.go (f' := (634, [some (.retAddr 0), some (.ref 0), some (.ref 130), some (.ref 138), some (.int i), none, none, none, none], [.int (i + (nI 4)), .retAddr 0, .int x3, .int x2, .int x1, .ref 0])) 4 rfl ?_
  refine ax_Wp.rdX hD rfl (fun x4 hD => ?_)
  refine ax_Wp.go (f' := (636, [some (.retAddr 0), some (.ref 0), some (.ref 130), some (.ref 138), some (.int i), none, none, none, none], [.ref 138, .int x4, .int x3, .int x2, .int x1, .ref 0])) 1 rfl ?_
  refine bnd hD (fun r5 hx hD => ?_)
  refine ax_Wp.callE (f' := (639, [some (.retAddr 0), some (.ref 0), some (.ref 130), some (.ref 138), some (.int i), none, none, none, none], [])) rfl rfl (w_250 (d := d + 3) hx) rfl ?_
  refine ax_Wp.go (f' := (647, [some (.retAddr 0), some (.ref 0), some (.ref 130), some (.ref 138), some (.int i), some (.int r5.1), none, none, none], [.int (i + (nI 1)), .retAddr 0, .ref 130])) 6 rfl ?_
  refine ax_Wp.rdX hD rfl (fun x6 hD => ?_)
  refine ax_Wp.go (f' := (653, [some (.retAddr 0), some (.ref 0), some (.ref 130), some (.ref 138), some (.int i), some (.int r5.1), none, none, none], [.int (i + (nI 2)), .retAddr 0, .int x6, .ref 130])) 4 rfl ?_
  refine ax_Wp.rdX hD rfl (fun x7 hD => ?_)
  refine ax_Wp.go (f' := (659, [some (.retAddr 0), some (.ref 0), some (.ref 130), some (.ref 138), some (.int i), some (.int r5.1), none, none, none], [.int (i + (nI 3)), .retAddr 0, .int x7, .int x6, .ref 130])) 4 rfl ?_
  refine ax_Wp.rdX hD rfl (fun x8 hD => ?_)
  refine ax_Wp.go (f' := (665, [some (.retAddr 0), some (.ref 0), some (.ref 130), some (.ref 138), some (.int i), some (.int r5.1), none, none, none], [.int (i + (nI 4)), .retAddr 0, .int x8, .int x7, .int x6, .ref 130])) 4 rfl ?_
  refine ax_Wp.rdX hD rfl (fun x9 hD => ?_)
  refine bnd hD (fun r10 hx hD => ?_)
  refine ax_Wp.callE (f' := (669, [some (.retAddr 0), some (.ref 0), some (.ref 130), some (.ref 138), some (.int i), some (.int r5.1), none, none, none], [])) rfl rfl (w_183 (d := d + 5) hx) rfl ?_
  refine ax_Wp.go (f' := (672, [some (.retAddr 0), some (.ref 0), some (.ref 130), some (.ref 138), some (.int i), some (.int r5.1), some (.int r10.1), none, none], [.ref 130])) 2 rfl ?_
  refine bnd hD (fun x11 hx hD => ?_)
  refine ax_Wp.callE (f' := (675, [some (.retAddr 0), some (.ref 0), some (.ref 130), some (.ref 138), some (.int i), some (.int r5.1), some (.int r10.1), none, none], [])) rfl rfl (w_142 (d := d + 10) hx) rfl ?_
  refine ax_Wp.go (f' := (677, [some (.retAddr 0), some (.ref 0), some (.ref 130), some (.ref 138), some (.int i), some (.int r5.1), some (.int r10.1), none, none], [.int r5.1, .int x11])) 1 rfl ?_
  refine ax_Wp.brD hD rfl (fun _ hD => ?_) (fun _ hD => ?_)
  · refine ax_Wp.go (f' := (684, [some (.retAddr 0), some (.ref 0), some (.ref 130), some (.ref 138), some (.int i), some (.int r5.1), some (.int r10.1), none, none], [.int r5.1])) 1 rfl ?_
    refine ax_Wp.brD hD rfl (fun _ hD => ?_) (fun _ hD => ?_)
    · refine ax_Wp.go (f' := (689, [some (.retAddr 0), some (.ref 0), some (.ref 130), some (.ref 138), some (.int i), some (.int r5.1), some (.int r10.1), none, none], [.int (nI 0), .ref 138])) 2 rfl ?_
      refine ax_Wp.rdL hD rfl rfl rfl (fun x12 hD => ?_)
      refine ax_Wp.go (f' := (694, [some (.retAddr 0), some (.ref 0), some (.ref 130), some (.ref 138), some (.int i), some (.int r5.1), some (.int r10.1), none, none], [.int (lg_cmp x12 r10.1.toInt64)])) 3 rfl ?_
      refine ax_Wp.brD hD rfl (fun _ hD => ?_) (fun _ hD => ?_)
      · refine ax_Wp.go (f' := (2778, [some (.retAddr 0), some (.ref 0), some (.ref 130), some (.ref 138), some (.int i), some (.int r5.1), some (.int r10.1), none, none], [])) 1 rfl ?_
        obtain rfl := inj hD
        exact ax_Wp.dead kk ⟨.inl rfl, ⟨.inl rfl, ⟨.inl rfl, ⟨.inl rfl, ⟨.inl rfl, ⟨.inr ⟨rfl, trivial⟩, ⟨.inr ⟨rfl, trivial⟩, ⟨.inl rfl, ⟨.inl rfl, trivial⟩⟩⟩⟩⟩⟩⟩⟩⟩
      · refine ax_Wp.go (f' := (698, [some (.retAddr 0), some (.ref 0), some (.ref 130), some (.ref 138), some (.int i), some (.int r5.1), some (.int r10.1), none, none], [.int (nI 0)])) 1 rfl ?_
        obtain rfl := inj hD
        exact ax_Wp.ret rfl kk
    · refine ax_Wp.go (f' := (2778, [some (.retAddr 0), some (.ref 0), some (.ref 130), some (.ref 138), some (.int i), some (.int r5.1), some (.int r10.1), none, none], [])) 1 rfl ?_
      obtain rfl := inj hD
      exact ax_Wp.dead kk ⟨.inl rfl, ⟨.inl rfl, ⟨.inl rfl, ⟨.inl rfl, ⟨.inl rfl, ⟨.inr ⟨rfl, trivial⟩, ⟨.inr ⟨rfl, trivial⟩, ⟨.inl rfl, ⟨.inl rfl, trivial⟩⟩⟩⟩⟩⟩⟩⟩⟩
  · refine ax_Wp.go (f' := (681, [some (.retAddr 0), some (.ref 0), some (.ref 130), some (.ref 138), some (.int i), some (.int r5.1), some (.int r10.1), none, none], [.int (nI 0)])) 1 rfl ?_
    obtain rfl := inj hD
    exact ax_Wp.ret rfl kk
def C6 (X : Nat × (Nat → Int32)) (m : dM) (i : Int32) : Option (dM ⊕ dM) := (gX X (i + (nI 1))).bind fun (x1 : Int32) => (D251 m x1).bind fun (r2 : Int32 × dM) => (gX X (i + (nI 1))).bind fun (x3 : Int32) => (D184 r2.2 x3).bind fun (r4 : Int32 × dM) => (D142 r4.2).bind fun (x5 : Int32) => if x5 = r2.1 then if r2.1 = (nI 0) then (gL r4.2 138 1 (nI 0)).bind fun (x6 : Int64) => if (lg_cmp x6 r4.1.toInt64) = (nI 0) then some (.inl r4.2) else some (.inr r4.2) else some (.inl r4.2) else some (.inr r4.2)
set_option maxRecDepth 20000 in
theorem c_6 {X : Nat × (Nat → Int32)} {d : Nat} {Q : ax_O → ax_H → Prop} {m : dM} {i : Int32} {v : dM ⊕ dM} (hD : C6 X m i = some v) (kk : lwK X d Q i v) : ax_Wp X (d + 11 + 1) 283 (702, [some (.retAddr 0), some (.ref 0), some (.ref 130), some (.ref 138), some (.int i), none, none, none, none], []) (stt m) Q := by
  unfold C6 at hD
  refine ax_Wp.go (f' := (708, [some (.retAddr 0), some (.ref 0), some (.ref 130), some (.ref 138), some (.int i), none, none, none, none], [.int (i + (nI 1)), .retAddr 0, .ref 0])) 5 rfl ?_
  refine ax_Wp.rdX hD rfl (fun x1 hD => ?_)
  refine ax_Wp.go (f' := (710, [some (.retAddr 0), some (.ref 0), some (.ref 130), some (.ref 138), some (.int i), none, none, none, none], [.ref 138, .int x1, .ref 0])) 1 rfl ?_
  refine bnd hD (fun r2 hx hD => ?_)
  refine ax_Wp.callE (f' := (713, [some (.retAddr 0), some (.ref 0), some (.ref 130), some (.ref 138), some (.int i), none, none, none, none], [])) rfl rfl (w_251 (d := d + 4) hx) rfl ?_
  refine ax_Wp.go (f' := (721, [some (.retAddr 0), some (.ref 0), some (.ref 130), some (.ref 138), some (.int i), some (.int r2.1), none, none, none], [.int (i + (nI 1)), .retAddr 0, .ref 130])) 6 rfl ?_
  refine ax_Wp.rdX hD rfl (fun x3 hD => ?_)
  refine bnd hD (fun r4 hx hD => ?_)
  refine ax_Wp.callE (f' := (725, [some (.retAddr 0), some (.ref 0), some (.ref 130), some (.ref 138), some (.int i), some (.int r2.1), none, none, none], [])) rfl rfl (w_184 (d := d + 9) hx) rfl ?_
  refine ax_Wp.go (f' := (728, [some (.retAddr 0), some (.ref 0), some (.ref 130), some (.ref 138), some (.int i), some (.int r2.1), some (.int r4.1), none, none], [.ref 130])) 2 rfl ?_
  refine bnd hD (fun x5 hx hD => ?_)
  refine ax_Wp.callE (f' := (731, [some (.retAddr 0), some (.ref 0), some (.ref 130), some (.ref 138), some (.int i), some (.int r2.1), some (.int r4.1), none, none], [])) rfl rfl (w_142 (d := d + 10) hx) rfl ?_
  refine ax_Wp.go (f' := (733, [some (.retAddr 0), some (.ref 0), some (.ref 130), some (.ref 138), some (.int i), some (.int r2.1), some (.int r4.1), none, none], [.int r2.1, .int x5])) 1 rfl ?_
  refine ax_Wp.brD hD rfl (fun _ hD => ?_) (fun _ hD => ?_)
  · refine ax_Wp.go (f' := (740, [some (.retAddr 0), some (.ref 0), some (.ref 130), some (.ref 138), some (.int i), some (.int r2.1), some (.int r4.1), none, none], [.int r2.1])) 1 rfl ?_
    refine ax_Wp.brD hD rfl (fun _ hD => ?_) (fun _ hD => ?_)
    · refine ax_Wp.go (f' := (745, [some (.retAddr 0), some (.ref 0), some (.ref 130), some (.ref 138), some (.int i), some (.int r2.1), some (.int r4.1), none, none], [.int (nI 0), .ref 138])) 2 rfl ?_
      refine ax_Wp.rdL hD rfl rfl rfl (fun x6 hD => ?_)
      refine ax_Wp.go (f' := (750, [some (.retAddr 0), some (.ref 0), some (.ref 130), some (.ref 138), some (.int i), some (.int r2.1), some (.int r4.1), none, none], [.int (lg_cmp x6 r4.1.toInt64)])) 3 rfl ?_
      refine ax_Wp.brD hD rfl (fun _ hD => ?_) (fun _ hD => ?_)
      · refine ax_Wp.go (f' := (2778, [some (.retAddr 0), some (.ref 0), some (.ref 130), some (.ref 138), some (.int i), some (.int r2.1), some (.int r4.1), none, none], [])) 1 rfl ?_
        obtain rfl := inj hD
        exact ax_Wp.dead kk ⟨.inl rfl, ⟨.inl rfl, ⟨.inl rfl, ⟨.inl rfl, ⟨.inl rfl, ⟨.inr ⟨rfl, trivial⟩, ⟨.inr ⟨rfl, trivial⟩, ⟨.inl rfl, ⟨.inl rfl, trivial⟩⟩⟩⟩⟩⟩⟩⟩⟩
      · refine ax_Wp.go (f' := (754, [some (.retAddr 0), some (.ref 0), some (.ref 130), some (.ref 138), some (.int i), some (.int r2.1), some (.int r4.1), none, none], [.int (nI 0)])) 1 rfl ?_
        obtain rfl := inj hD
        exact ax_Wp.ret rfl kk
    · refine ax_Wp.go (f' := (2778, [some (.retAddr 0), some (.ref 0), some (.ref 130), some (.ref 138), some (.int i), some (.int r2.1), some (.int r4.1), none, none], [])) 1 rfl ?_
      obtain rfl := inj hD
      exact ax_Wp.dead kk ⟨.inl rfl, ⟨.inl rfl, ⟨.inl rfl, ⟨.inl rfl, ⟨.inl rfl, ⟨.inr ⟨rfl, trivial⟩, ⟨.inr ⟨rfl, trivial⟩, ⟨.inl rfl, ⟨.inl rfl, trivial⟩⟩⟩⟩⟩⟩⟩⟩⟩
  · refine ax_Wp.go (f' := (737, [some (.retAddr 0), some (.ref 0), some (.ref 130), some (.ref 138), some (.int i), some (.int r2.1), some (.int r4.1), none, none], [.int (nI 0)])) 1 rfl ?_
    obtain rfl := inj hD
    exact ax_Wp.ret rfl kk
def C7 (X : Nat × (Nat → Int32)) (m : dM) (i : Int32) : Option (dM ⊕ dM) := (gX X (i + (nI 1))).bind fun (x1 : Int32) => (gX X (i + (nI 2))).bind fun (x2 : Int32) => (D252 m x1 x2).bind fun (r3 : Int32 × dM) => (gX X (i + (nI 1))).bind fun (x4 : Int32) => (gX X (i + (nI 2))).bind fun (x5 : Int32) => (D185 r3.2 x4 x5).bind fun (r6 : Int32 × dM) => (D142 r6.2).bind fun (x7 : Int32) => if x7 = r3.1 then if r3.1 = (nI 0) then (gL r6.2 138 1 (nI 0)).bind fun (x8 : Int64) => if (lg_cmp x8 r6.1.toInt64) = (nI 0) then some (.inl r6.2) else some (.inr r6.2) else some (.inl r6.2) else some (.inr r6.2)
set_option maxRecDepth 20000 in
theorem c_7 {X : Nat × (Nat → Int32)} {d : Nat} {Q : ax_O → ax_H → Prop} {m : dM} {i : Int32} {v : dM ⊕ dM} (hD : C7 X m i = some v) (kk : lwK X d Q i v) : ax_Wp X (d + 11 + 1) 283 (758, [some (.retAddr 0), some (.ref 0), some (.ref 130), some (.ref 138), some (.int i), none, none, none, none], []) (stt m) Q := by
  unfold C7 at hD
  refine ax_Wp.go (f' := (764, [some (.retAddr 0), some (.ref 0), some (.ref 130), some (.ref 138), some (.int i), none, none, none, none], [.int (i + (nI 1)), .retAddr 0, .ref 0])) 5 rfl ?_
  refine ax_Wp.rdX hD rfl (fun x1 hD => ?_)
  refine ax_Wp.go (f' := (770, [some (.retAddr 0), some (.ref 0), some (.ref 130), some (.ref 138), some (.int i), none, none, none, none], [.int (i + (nI 2)), .retAddr 0, .int x1, .ref 0])) 4 rfl ?_
  refine ax_Wp.rdX hD rfl (fun x2 hD => ?_)
  refine ax_Wp.go (f' := (772, [some (.retAddr 0), some (.ref 0), some (.ref 130), some (.ref 138), some (.int i), none, none, none, none], [.ref 138, .int x2, .int x1, .ref 0])) 1 rfl ?_
  refine bnd hD (fun r3 hx hD => ?_)
  refine ax_Wp.callE (f' := (775, [some (.retAddr 0), some (.ref 0), some (.ref 130), some (.ref 138), some (.int i), none, none, none, none], [])) rfl rfl (w_252 (d := d + 3) hx) rfl ?_
  refine ax_Wp.go (f' := (783, [some (.retAddr 0), some (.ref 0), some (.ref 130), some (.ref 138), some (.int i), some (.int r3.1), none, none, none], [.int (i + (nI 1)), .retAddr 0, .ref 130])) 6 rfl ?_
  refine ax_Wp.rdX hD rfl (fun x4 hD => ?_)
  refine ax_Wp.go (f' := (789, [some (.retAddr 0), some (.ref 0), some (.ref 130), some (.ref 138), some (.int i), some (.int r3.1), none, none, none], [.int (i + (nI 2)), .retAddr 0, .int x4, .ref 130])) 4 rfl ?_
  refine ax_Wp.rdX hD rfl (fun x5 hD => ?_)
  refine bnd hD (fun r6 hx hD => ?_)
  refine ax_Wp.callE (f' := (793, [some (.retAddr 0), some (.ref 0), some (.ref 130), some (.ref 138), some (.int i), some (.int r3.1), none, none, none], [])) rfl rfl (w_185 (d := d + 5) hx) rfl ?_
  refine ax_Wp.go (f' := (796, [some (.retAddr 0), some (.ref 0), some (.ref 130), some (.ref 138), some (.int i), some (.int r3.1), some (.int r6.1), none, none], [.ref 130])) 2 rfl ?_
  refine bnd hD (fun x7 hx hD => ?_)
  refine ax_Wp.callE (f' := (799, [some (.retAddr 0), some (.ref 0), some (.ref 130), some (.ref 138), some (.int i), some (.int r3.1), some (.int r6.1), none, none], [])) rfl rfl (w_142 (d := d + 10) hx) rfl ?_
  refine ax_Wp.go (f' := (801, [some (.retAddr 0), some (.ref 0), some (.ref 130), some (.ref 138), some (.int i), some (.int r3.1), some (.int r6.1), none, none], [.int r3.1, .int x7])) 1 rfl ?_
  refine ax_Wp.brD hD rfl (fun _ hD => ?_) (fun _ hD => ?_)
  · refine ax_Wp.go (f' := (808, [some (.retAddr 0), some (.ref 0), some (.ref 130), some (.ref 138), some (.int i), some (.int r3.1), some (.int r6.1), none, none], [.int r3.1])) 1 rfl ?_
    refine ax_Wp.brD hD rfl (fun _ hD => ?_) (fun _ hD => ?_)
    · refine ax_Wp.go (f' := (813, [some (.retAddr 0), some (.ref 0), some (.ref 130), some (.ref 138), some (.int i), some (.int r3.1), some (.int r6.1), none, none], [.int (nI 0), .ref 138])) 2 rfl ?_
      refine ax_Wp.rdL hD rfl rfl rfl (fun x8 hD => ?_)
      refine ax_Wp.go (f' := (818, [some (.retAddr 0), some (.ref 0), some (.ref 130), some (.ref 138), some (.int i), some (.int r3.1), some (.int r6.1), none, none], [.int (lg_cmp x8 r6.1.toInt64)])) 3 rfl ?_
      refine ax_Wp.brD hD rfl (fun _ hD => ?_) (fun _ hD => ?_)
      · refine ax_Wp.go (f' := (2778, [some (.retAddr 0), some (.ref 0), some (.ref 130), some (.ref 138), some (.int i), some (.int r3.1), some (.int r6.1), none, none], [])) 1 rfl ?_
        obtain rfl := inj hD
        exact ax_Wp.dead kk ⟨.inl rfl, ⟨.inl rfl, ⟨.inl rfl, ⟨.inl rfl, ⟨.inl rfl, ⟨.inr ⟨rfl, trivial⟩, ⟨.inr ⟨rfl, trivial⟩, ⟨.inl rfl, ⟨.inl rfl, trivial⟩⟩⟩⟩⟩⟩⟩⟩⟩
      · refine ax_Wp.go (f' := (822, [some (.retAddr 0), some (.ref 0), some (.ref 130), some (.ref 138), some (.int i), some (.int r3.1), some (.int r6.1), none, none], [.int (nI 0)])) 1 rfl ?_
        obtain rfl := inj hD
        exact ax_Wp.ret rfl kk
    · refine ax_Wp.go (f' := (2778, [some (.retAddr 0), some (.ref 0), some (.ref 130), some (.ref 138), some (.int i), some (.int r3.1), some (.int r6.1), none, none], [])) 1 rfl ?_
      obtain rfl := inj hD
      exact ax_Wp.dead kk ⟨.inl rfl, ⟨.inl rfl, ⟨.inl rfl, ⟨.inl rfl, ⟨.inl rfl, ⟨.inr ⟨rfl, trivial⟩, ⟨.inr ⟨rfl, trivial⟩, ⟨.inl rfl, ⟨.inl rfl, trivial⟩⟩⟩⟩⟩⟩⟩⟩⟩
  · refine ax_Wp.go (f' := (805, [some (.retAddr 0), some (.ref 0), some (.ref 130), some (.ref 138), some (.int i), some (.int r3.1), some (.int r6.1), none, none], [.int (nI 0)])) 1 rfl ?_
    obtain rfl := inj hD
    exact ax_Wp.ret rfl kk
def C8 (X : Nat × (Nat → Int32)) (m : dM) (i : Int32) : Option (dM ⊕ dM) := (gX X (i + (nI 1))).bind fun (x1 : Int32) => (D253 m x1).bind fun (r2 : Int32 × dM) => (gX X (i + (nI 1))).bind fun (x3 : Int32) => (D186 r2.2 x3).bind fun (r4 : Int32 × dM) => (D142 r4.2).bind fun (x5 : Int32) => if x5 = r2.1 then if r2.1 = (nI 0) then (gL r4.2 138 1 (nI 0)).bind fun (x6 : Int64) => Option.bind ((if r4.1 = (nI 0) then some (0 : Int64) else some (1 : Int64)) : Option (Int64)) fun (v7 : Int64) => if (lg_cmp x6 v7) = (nI 0) then some (.inl r4.2) else some (.inr r4.2) else some (.inl r4.2) else some (.inr r4.2)
set_option maxRecDepth 20000 in
theorem c_8 {X : Nat × (Nat → Int32)} {d : Nat} {Q : ax_O → ax_H → Prop} {m : dM} {i : Int32} {v : dM ⊕ dM} (hD : C8 X m i = some v) (kk : lwK X d Q i v) : ax_Wp X (d + 11 + 1) 283 (826, [some (.retAddr 0), some (.ref 0), some (.ref 130), some (.ref 138), some (.int i), none, none, none, none], []) (stt m) Q := by
  unfold C8 at hD
  refine ax_Wp.go (f' := (832, [some (.retAddr 0), some (.ref 0), some (.ref 130), some (.ref 138), some (.int i), none, none, none, none], [.int (i + (nI 1)), .retAddr 0, .ref 0])) 5 rfl ?_
  refine ax_Wp.rdX hD rfl (fun x1 hD => ?_)
  refine ax_Wp.go (f' := (834, [some (.retAddr 0), some (.ref 0), some (.ref 130), some (.ref 138), some (.int i), none, none, none, none], [.ref 138, .int x1, .ref 0])) 1 rfl ?_
  refine bnd hD (fun r2 hx hD => ?_)
  refine ax_Wp.callE (f' := (837, [some (.retAddr 0), some (.ref 0), some (.ref 130), some (.ref 138), some (.int i), none, none, none, none], [])) rfl rfl (w_253 (d := d + 3) hx) rfl ?_
  refine ax_Wp.go (f' := (845, [some (.retAddr 0), some (.ref 0), some (.ref 130), some (.ref 138), some (.int i), some (.int r2.1), none, none, none], [.int (i + (nI 1)), .retAddr 0, .ref 130])) 6 rfl ?_
  refine ax_Wp.rdX hD rfl (fun x3 hD => ?_)
  refine bnd hD (fun r4 hx hD => ?_)
  refine ax_Wp.callE (f' := (849, [some (.retAddr 0), some (.ref 0), some (.ref 130), some (.ref 138), some (.int i), some (.int r2.1), none, none, none], [])) rfl rfl (w_186 (d := d + 8) hx) rfl ?_
  refine ax_Wp.go (f' := (852, [some (.retAddr 0), some (.ref 0), some (.ref 130), some (.ref 138), some (.int i), some (.int r2.1), some (.int r4.1), none, none], [.ref 130])) 2 rfl ?_
  refine bnd hD (fun x5 hx hD => ?_)
  refine ax_Wp.callE (f' := (855, [some (.retAddr 0), some (.ref 0), some (.ref 130), some (.ref 138), some (.int i), some (.int r2.1), some (.int r4.1), none, none], [])) rfl rfl (w_142 (d := d + 10) hx) rfl ?_
  refine ax_Wp.go (f' := (857, [some (.retAddr 0), some (.ref 0), some (.ref 130), some (.ref 138), some (.int i), some (.int r2.1), some (.int r4.1), none, none], [.int r2.1, .int x5])) 1 rfl ?_
  refine ax_Wp.brD hD rfl (fun _ hD => ?_) (fun _ hD => ?_)
  · refine ax_Wp.go (f' := (864, [some (.retAddr 0), some (.ref 0), some (.ref 130), some (.ref 138), some (.int i), some (.int r2.1), some (.int r4.1), none, none], [.int r2.1])) 1 rfl ?_
    refine ax_Wp.brD hD rfl (fun _ hD => ?_) (fun _ hD => ?_)
    · refine ax_Wp.go (f' := (869, [some (.retAddr 0), some (.ref 0), some (.ref 130), some (.ref 138), some (.int i), some (.int r2.1), some (.int r4.1), none, none], [.int (nI 0), .ref 138])) 2 rfl ?_
      refine ax_Wp.rdL hD rfl rfl rfl (fun x6 hD => ?_)
      refine ax_Wp.go (f' := (872, [some (.retAddr 0), some (.ref 0), some (.ref 130), some (.ref 138), some (.int i), some (.int r2.1), some (.int r4.1), none, none], [.int r4.1, .long x6])) 1 rfl ?_
      refine bnd hD (fun v7 hx hD => ?_)
      refine ax_Wp.jn (F := (880, [some (.retAddr 0), some (.ref 0), some (.ref 130), some (.ref 138), some (.int i), none, none, none, none], [.long v7, .long x6])) (hh := stt r4.2) ?_ (fun kkv7 => ?_)
      · refine ax_Wp.go (f' := (881, [some (.retAddr 0), some (.ref 0), some (.ref 130), some (.ref 138), some (.int i), none, none, none, none], [.int (lg_cmp x6 v7)])) 1 rfl ?_
        refine ax_Wp.brD hD rfl (fun _ hD => ?_) (fun _ hD => ?_)
        · refine ax_Wp.go (f' := (2778, [some (.retAddr 0), some (.ref 0), some (.ref 130), some (.ref 138), some (.int i), none, none, none, none], [])) 1 rfl ?_
          obtain rfl := inj hD
          exact kk
        · refine ax_Wp.go (f' := (885, [some (.retAddr 0), some (.ref 0), some (.ref 130), some (.ref 138), some (.int i), none, none, none, none], [.int (nI 0)])) 1 rfl ?_
          obtain rfl := inj hD
          exact ax_Wp.ret rfl kk
      clear hD
      have hD := hx
      clear hx
      refine ax_Wp.brD hD rfl (fun _ hD => ?_) (fun _ hD => ?_)
      · refine ax_Wp.go (f' := (880, [some (.retAddr 0), some (.ref 0), some (.ref 130), some (.ref 138), some (.int i), some (.int r2.1), some (.int r4.1), none, none], [.long (0 : Int64), .long x6])) 1 rfl ?_
        obtain rfl := inj hD
        exact ax_Wp.dead kkv7 ⟨.inl rfl, ⟨.inl rfl, ⟨.inl rfl, ⟨.inl rfl, ⟨.inl rfl, ⟨.inr ⟨rfl, trivial⟩, ⟨.inr ⟨rfl, trivial⟩, ⟨.inl rfl, ⟨.inl rfl, trivial⟩⟩⟩⟩⟩⟩⟩⟩⟩
      · refine ax_Wp.go (f' := (880, [some (.retAddr 0), some (.ref 0), some (.ref 130), some (.ref 138), some (.int i), some (.int r2.1), some (.int r4.1), none, none], [.long (1 : Int64), .long x6])) 2 rfl ?_
        obtain rfl := inj hD
        exact ax_Wp.dead kkv7 ⟨.inl rfl, ⟨.inl rfl, ⟨.inl rfl, ⟨.inl rfl, ⟨.inl rfl, ⟨.inr ⟨rfl, trivial⟩, ⟨.inr ⟨rfl, trivial⟩, ⟨.inl rfl, ⟨.inl rfl, trivial⟩⟩⟩⟩⟩⟩⟩⟩⟩
    · refine ax_Wp.go (f' := (2778, [some (.retAddr 0), some (.ref 0), some (.ref 130), some (.ref 138), some (.int i), some (.int r2.1), some (.int r4.1), none, none], [])) 1 rfl ?_
      obtain rfl := inj hD
      exact ax_Wp.dead kk ⟨.inl rfl, ⟨.inl rfl, ⟨.inl rfl, ⟨.inl rfl, ⟨.inl rfl, ⟨.inr ⟨rfl, trivial⟩, ⟨.inr ⟨rfl, trivial⟩, ⟨.inl rfl, ⟨.inl rfl, trivial⟩⟩⟩⟩⟩⟩⟩⟩⟩
  · refine ax_Wp.go (f' := (861, [some (.retAddr 0), some (.ref 0), some (.ref 130), some (.ref 138), some (.int i), some (.int r2.1), some (.int r4.1), none, none], [.int (nI 0)])) 1 rfl ?_
    obtain rfl := inj hD
    exact ax_Wp.ret rfl kk
def C9 (X : Nat × (Nat → Int32)) (m : dM) (i : Int32) : Option (dM ⊕ dM) := (D254 m).bind fun (r1 : Int32 × dM) => (D187 r1.2).bind fun (r2 : Int32 × dM) => (D142 r2.2).bind fun (x3 : Int32) => if x3 = r1.1 then if r1.1 = (nI 0) then (gL r2.2 138 1 (nI 0)).bind fun (x4 : Int64) => if (lg_cmp x4 r2.1.toInt64) = (nI 0) then some (.inl r2.2) else some (.inr r2.2) else some (.inl r2.2) else some (.inr r2.2)
set_option maxRecDepth 20000 in
theorem c_9 {X : Nat × (Nat → Int32)} {d : Nat} {Q : ax_O → ax_H → Prop} {m : dM} {i : Int32} {v : dM ⊕ dM} (hD : C9 X m i = some v) (kk : lwK X d Q i v) : ax_Wp X (d + 11 + 1) 283 (889, [some (.retAddr 0), some (.ref 0), some (.ref 130), some (.ref 138), some (.int i), none, none, none, none], []) (stt m) Q := by
  unfold C9 at hD
  refine ax_Wp.go (f' := (891, [some (.retAddr 0), some (.ref 0), some (.ref 130), some (.ref 138), some (.int i), none, none, none, none], [.ref 138, .ref 0])) 2 rfl ?_
  refine bnd hD (fun r1 hx hD => ?_)
  refine ax_Wp.callE (f' := (894, [some (.retAddr 0), some (.ref 0), some (.ref 130), some (.ref 138), some (.int i), none, none, none, none], [])) rfl rfl (w_254 (d := d + 4) hx) rfl ?_
  refine ax_Wp.go (f' := (897, [some (.retAddr 0), some (.ref 0), some (.ref 130), some (.ref 138), some (.int i), some (.int r1.1), none, none, none], [.ref 130])) 2 rfl ?_
  refine bnd hD (fun r2 hx hD => ?_)
  refine ax_Wp.callE (f' := (900, [some (.retAddr 0), some (.ref 0), some (.ref 130), some (.ref 138), some (.int i), some (.int r1.1), none, none, none], [])) rfl rfl (w_187 (d := d + 5) hx) rfl ?_
  refine ax_Wp.go (f' := (903, [some (.retAddr 0), some (.ref 0), some (.ref 130), some (.ref 138), some (.int i), some (.int r1.1), some (.int r2.1), none, none], [.ref 130])) 2 rfl ?_
  refine bnd hD (fun x3 hx hD => ?_)
  refine ax_Wp.callE (f' := (906, [some (.retAddr 0), some (.ref 0), some (.ref 130), some (.ref 138), some (.int i), some (.int r1.1), some (.int r2.1), none, none], [])) rfl rfl (w_142 (d := d + 10) hx) rfl ?_
  refine ax_Wp.go (f' := (908, [some (.retAddr 0), some (.ref 0), some (.ref 130), some (.ref 138), some (.int i), some (.int r1.1), some (.int r2.1), none, none], [.int r1.1, .int x3])) 1 rfl ?_
  refine ax_Wp.brD hD rfl (fun _ hD => ?_) (fun _ hD => ?_)
  · refine ax_Wp.go (f' := (915, [some (.retAddr 0), some (.ref 0), some (.ref 130), some (.ref 138), some (.int i), some (.int r1.1), some (.int r2.1), none, none], [.int r1.1])) 1 rfl ?_
    refine ax_Wp.brD hD rfl (fun _ hD => ?_) (fun _ hD => ?_)
    · refine ax_Wp.go (f' := (920, [some (.retAddr 0), some (.ref 0), some (.ref 130), some (.ref 138), some (.int i), some (.int r1.1), some (.int r2.1), none, none], [.int (nI 0), .ref 138])) 2 rfl ?_
      refine ax_Wp.rdL hD rfl rfl rfl (fun x4 hD => ?_)
      refine ax_Wp.go (f' := (925, [some (.retAddr 0), some (.ref 0), some (.ref 130), some (.ref 138), some (.int i), some (.int r1.1), some (.int r2.1), none, none], [.int (lg_cmp x4 r2.1.toInt64)])) 3 rfl ?_
      refine ax_Wp.brD hD rfl (fun _ hD => ?_) (fun _ hD => ?_)
      · refine ax_Wp.go (f' := (2778, [some (.retAddr 0), some (.ref 0), some (.ref 130), some (.ref 138), some (.int i), some (.int r1.1), some (.int r2.1), none, none], [])) 1 rfl ?_
        obtain rfl := inj hD
        exact ax_Wp.dead kk ⟨.inl rfl, ⟨.inl rfl, ⟨.inl rfl, ⟨.inl rfl, ⟨.inl rfl, ⟨.inr ⟨rfl, trivial⟩, ⟨.inr ⟨rfl, trivial⟩, ⟨.inl rfl, ⟨.inl rfl, trivial⟩⟩⟩⟩⟩⟩⟩⟩⟩
      · refine ax_Wp.go (f' := (929, [some (.retAddr 0), some (.ref 0), some (.ref 130), some (.ref 138), some (.int i), some (.int r1.1), some (.int r2.1), none, none], [.int (nI 0)])) 1 rfl ?_
        obtain rfl := inj hD
        exact ax_Wp.ret rfl kk
    · refine ax_Wp.go (f' := (2778, [some (.retAddr 0), some (.ref 0), some (.ref 130), some (.ref 138), some (.int i), some (.int r1.1), some (.int r2.1), none, none], [])) 1 rfl ?_
      obtain rfl := inj hD
      exact ax_Wp.dead kk ⟨.inl rfl, ⟨.inl rfl, ⟨.inl rfl, ⟨.inl rfl, ⟨.inl rfl, ⟨.inr ⟨rfl, trivial⟩, ⟨.inr ⟨rfl, trivial⟩, ⟨.inl rfl, ⟨.inl rfl, trivial⟩⟩⟩⟩⟩⟩⟩⟩⟩
  · refine ax_Wp.go (f' := (912, [some (.retAddr 0), some (.ref 0), some (.ref 130), some (.ref 138), some (.int i), some (.int r1.1), some (.int r2.1), none, none], [.int (nI 0)])) 1 rfl ?_
    obtain rfl := inj hD
    exact ax_Wp.ret rfl kk
def C10 (X : Nat × (Nat → Int32)) (m : dM) (i : Int32) : Option (dM ⊕ dM) := (gX X (i + (nI 1))).bind fun (x1 : Int32) => (D255 m x1).bind fun (r2 : Int32 × dM) => (gX X (i + (nI 1))).bind fun (x3 : Int32) => (D188 r2.2 x3).bind fun (r4 : Int32 × dM) => (D142 r4.2).bind fun (x5 : Int32) => if x5 = r2.1 then if r2.1 = (nI 0) then (gL r4.2 138 1 (nI 0)).bind fun (x6 : Int64) => if (lg_cmp x6 r4.1.toInt64) = (nI 0) then some (.inl r4.2) else some (.inr r4.2) else some (.inl r4.2) else some (.inr r4.2)
set_option maxRecDepth 20000 in
theorem c_10 {X : Nat × (Nat → Int32)} {d : Nat} {Q : ax_O → ax_H → Prop} {m : dM} {i : Int32} {v : dM ⊕ dM} (hD : C10 X m i = some v) (kk : lwK X d Q i v) : ax_Wp X (d + 11 + 1) 283 (933, [some (.retAddr 0), some (.ref 0), some (.ref 130), some (.ref 138), some (.int i), none, none, none, none], []) (stt m) Q := by
  unfold C10 at hD
  refine ax_Wp.go (f' := (939, [some (.retAddr 0), some (.ref 0), some (.ref 130), some (.ref 138), some (.int i), none, none, none, none], [.int (i + (nI 1)), .retAddr 0, .ref 0])) 5 rfl ?_
  refine ax_Wp.rdX hD rfl (fun x1 hD => ?_)
  refine ax_Wp.go (f' := (941, [some (.retAddr 0), some (.ref 0), some (.ref 130), some (.ref 138), some (.int i), none, none, none, none], [.ref 138, .int x1, .ref 0])) 1 rfl ?_
  refine bnd hD (fun r2 hx hD => ?_)
  refine ax_Wp.callE (f' := (944, [some (.retAddr 0), some (.ref 0), some (.ref 130), some (.ref 138), some (.int i), none, none, none, none], [])) rfl rfl (w_255 (d := d + 4) hx) rfl ?_
  refine ax_Wp.go (f' := (952, [some (.retAddr 0), some (.ref 0), some (.ref 130), some (.ref 138), some (.int i), some (.int r2.1), none, none, none], [.int (i + (nI 1)), .retAddr 0, .ref 130])) 6 rfl ?_
  refine ax_Wp.rdX hD rfl (fun x3 hD => ?_)
  refine bnd hD (fun r4 hx hD => ?_)
  refine ax_Wp.callE (f' := (956, [some (.retAddr 0), some (.ref 0), some (.ref 130), some (.ref 138), some (.int i), some (.int r2.1), none, none, none], [])) rfl rfl (w_188 (d := d + 9) hx) rfl ?_
  refine ax_Wp.go (f' := (959, [some (.retAddr 0), some (.ref 0), some (.ref 130), some (.ref 138), some (.int i), some (.int r2.1), some (.int r4.1), none, none], [.ref 130])) 2 rfl ?_
  refine bnd hD (fun x5 hx hD => ?_)
  refine ax_Wp.callE (f' := (962, [some (.retAddr 0), some (.ref 0), some (.ref 130), some (.ref 138), some (.int i), some (.int r2.1), some (.int r4.1), none, none], [])) rfl rfl (w_142 (d := d + 10) hx) rfl ?_
  refine ax_Wp.go (f' := (964, [some (.retAddr 0), some (.ref 0), some (.ref 130), some (.ref 138), some (.int i), some (.int r2.1), some (.int r4.1), none, none], [.int r2.1, .int x5])) 1 rfl ?_
  refine ax_Wp.brD hD rfl (fun _ hD => ?_) (fun _ hD => ?_)
  · refine ax_Wp.go (f' := (971, [some (.retAddr 0), some (.ref 0), some (.ref 130), some (.ref 138), some (.int i), some (.int r2.1), some (.int r4.1), none, none], [.int r2.1])) 1 rfl ?_
    refine ax_Wp.brD hD rfl (fun _ hD => ?_) (fun _ hD => ?_)
    · refine ax_Wp.go (f' := (976, [some (.retAddr 0), some (.ref 0), some (.ref 130), some (.ref 138), some (.int i), some (.int r2.1), some (.int r4.1), none, none], [.int (nI 0), .ref 138])) 2 rfl ?_
      refine ax_Wp.rdL hD rfl rfl rfl (fun x6 hD => ?_)
      refine ax_Wp.go (f' := (981, [some (.retAddr 0), some (.ref 0), some (.ref 130), some (.ref 138), some (.int i), some (.int r2.1), some (.int r4.1), none, none], [.int (lg_cmp x6 r4.1.toInt64)])) 3 rfl ?_
      refine ax_Wp.brD hD rfl (fun _ hD => ?_) (fun _ hD => ?_)
      · refine ax_Wp.go (f' := (2778, [some (.retAddr 0), some (.ref 0), some (.ref 130), some (.ref 138), some (.int i), some (.int r2.1), some (.int r4.1), none, none], [])) 1 rfl ?_
        obtain rfl := inj hD
        exact ax_Wp.dead kk ⟨.inl rfl, ⟨.inl rfl, ⟨.inl rfl, ⟨.inl rfl, ⟨.inl rfl, ⟨.inr ⟨rfl, trivial⟩, ⟨.inr ⟨rfl, trivial⟩, ⟨.inl rfl, ⟨.inl rfl, trivial⟩⟩⟩⟩⟩⟩⟩⟩⟩
      · refine ax_Wp.go (f' := (985, [some (.retAddr 0), some (.ref 0), some (.ref 130), some (.ref 138), some (.int i), some (.int r2.1), some (.int r4.1), none, none], [.int (nI 0)])) 1 rfl ?_
        obtain rfl := inj hD
        exact ax_Wp.ret rfl kk
    · refine ax_Wp.go (f' := (2778, [some (.retAddr 0), some (.ref 0), some (.ref 130), some (.ref 138), some (.int i), some (.int r2.1), some (.int r4.1), none, none], [])) 1 rfl ?_
      obtain rfl := inj hD
      exact ax_Wp.dead kk ⟨.inl rfl, ⟨.inl rfl, ⟨.inl rfl, ⟨.inl rfl, ⟨.inl rfl, ⟨.inr ⟨rfl, trivial⟩, ⟨.inr ⟨rfl, trivial⟩, ⟨.inl rfl, ⟨.inl rfl, trivial⟩⟩⟩⟩⟩⟩⟩⟩⟩
  · refine ax_Wp.go (f' := (968, [some (.retAddr 0), some (.ref 0), some (.ref 130), some (.ref 138), some (.int i), some (.int r2.1), some (.int r4.1), none, none], [.int (nI 0)])) 1 rfl ?_
    obtain rfl := inj hD
    exact ax_Wp.ret rfl kk
