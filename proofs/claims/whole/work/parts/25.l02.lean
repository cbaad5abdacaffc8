/-! THE LAW'S CASES: 2 -/
def C11 (X : Nat × (Nat → Int32)) (m : dM) (i : Int32) : Option (dM ⊕ dM) := (D81 m).bind fun (r1 : Int32 × dM) => (D189 r1.2).bind fun (r2 : Int32 × dM) => if r1.1 = r2.1 then some (.inl r2.2) else some (.inr r2.2)
set_option maxRecDepth 20000 in
theorem c_11 {X : Nat × (Nat → Int32)} {d : Nat} {Q : ax_O → ax_H → Prop} {m : dM} {i : Int32} {v : dM ⊕ dM} (hD : C11 X m i = some v) (kk : lwK X d Q i v) : ax_Wp X (d + 11 + 1) 283 (989, [some (.retAddr 0), some (.ref 0), some (.ref 130), some (.ref 138), some (.int i), none, none, none, none], []) (stt m) Q := by
  unfold C11 at hD
  refine ax_Wp.go (f' := (990, [some (.retAddr 0), some (.ref 0), some (.ref 130), some (.ref 138), some (.int i), none, none, none, none], [.ref 0])) 1 rfl ?_
  refine bnd hD (fun r1 hx hD => ?_)
  refine ax_Wp.callE (f' := (993, [some (.retAddr 0), some (.ref 0), some (.ref 130), some (.ref 138), some (.int i), none, none, none, none], [])) rfl rfl (w_81 (d := d + 9) hx) rfl ?_
  refine ax_Wp.go (f' := (994, [some (.retAddr 0), some (.ref 0), some (.ref 130), some (.ref 138), some (.int i), none, none, none, none], [.ref 130, .int r1.1])) 1 rfl ?_
  refine bnd hD (fun r2 hx hD => ?_)
  refine ax_Wp.callE (f' := (997, [some (.retAddr 0), some (.ref 0), some (.ref 130), some (.ref 138), some (.int i), none, none, none, none], [.int r1.1])) rfl rfl (w_189 (d := d + 10) hx) rfl ?_
  refine ax_Wp.brD hD rfl (fun _ hD => ?_) (fun _ hD => ?_)
  · obtain rfl := inj hD
    exact kk
  · refine ax_Wp.go (f' := (1001, [some (.retAddr 0), some (.ref 0), some (.ref 130), some (.ref 138), some (.int i), none, none, none, none], [.int (nI 0)])) 1 rfl ?_
    obtain rfl := inj hD
    exact ax_Wp.ret rfl kk
def C12 (X : Nat × (Nat → Int32)) (m : dM) (i : Int32) : Option (dM ⊕ dM) := (D82 m).bind fun (x1 : Int32) => (D194 m).bind fun (r2 : Int32 × dM) => if x1 = r2.1 then some (.inl r2.2) else some (.inr r2.2)
set_option maxRecDepth 20000 in
theorem c_12 {X : Nat × (Nat → Int32)} {d : Nat} {Q : ax_O → ax_H → Prop} {m : dM} {i : Int32} {v : dM ⊕ dM} (hD : C12 X m i = some v) (kk : lwK X d Q i v) : ax_Wp X (d + 11 + 1) 283 (1002, [some (.retAddr 0), some (.ref 0), some (.ref 130), some (.ref 138), some (.int i), none, none, none, none], []) (stt m) Q := by
  unfold C12 at hD
  refine ax_Wp.go (f' := (1003, [some (.retAddr 0), some (.ref 0), some (.ref 130), some (.ref 138), some (.int i), none, none, none, none], [.ref 0])) 1 rfl ?_
  refine bnd hD (fun x1 hx hD => ?_)
  refine ax_Wp.callE (f' := (1006, [some (.retAddr 0), some (.ref 0), some (.ref 130), some (.ref 138), some (.int i), none, none, none, none], [])) rfl rfl (w_82 (d := d + 6) hx) rfl ?_
  refine ax_Wp.go (f' := (1007, [some (.retAddr 0), some (.ref 0), some (.ref 130), some (.ref 138), some (.int i), none, none, none, none], [.ref 130, .int x1])) 1 rfl ?_
  refine bnd hD (fun r2 hx hD => ?_)
  refine ax_Wp.callE (f' := (1010, [some (.retAddr 0), some (.ref 0), some (.ref 130), some (.ref 138), some (.int i), none, none, none, none], [.int x1])) rfl rfl (w_194 (d := d + 3) hx) rfl ?_
  refine ax_Wp.brD hD rfl (fun _ hD => ?_) (fun _ hD => ?_)
  · obtain rfl := inj hD
    exact kk
  · refine ax_Wp.go (f' := (1014, [some (.retAddr 0), some (.ref 0), some (.ref 130), some (.ref 138), some (.int i), none, none, none, none], [.int (nI 0)])) 1 rfl ?_
    obtain rfl := inj hD
    exact ax_Wp.ret rfl kk
def C13 (X : Nat × (Nat → Int32)) (m : dM) (i : Int32) : Option (dM ⊕ dM) := (D256 m).bind fun (r1 : Int32 × dM) => (D195 r1.2).bind fun (r2 : Int32 × dM) => (D142 r2.2).bind fun (x3 : Int32) => if x3 = r1.1 then if r1.1 = (nI 0) then (gL r2.2 138 1 (nI 0)).bind fun (x4 : Int64) => if (lg_cmp x4 r2.1.toInt64) = (nI 0) then some (.inl r2.2) else some (.inr r2.2) else some (.inl r2.2) else some (.inr r2.2)
set_option maxRecDepth 20000 in
theorem c_13 {X : Nat × (Nat → Int32)} {d : Nat} {Q : ax_O → ax_H → Prop} {m : dM} {i : Int32} {v : dM ⊕ dM} (hD : C13 X m i = some v) (kk : lwK X d Q i v) : ax_Wp X (d + 11 + 1) 283 (1015, [some (.retAddr 0), some (.ref 0), some (.ref 130), some (.ref 138), some (.int i), none, none, none, none], []) (stt m) Q := by
  unfold C13 at hD
  refine ax_Wp.go (f' := (1017, [some (.retAddr 0), some (.ref 0), some (.ref 130), some (.ref 138), some (.int i), none, none, none, none], [.ref 138, .ref 0])) 2 rfl ?_
  refine bnd hD (fun r1 hx hD => ?_)
  refine ax_Wp.callE (f' := (1020, [some (.retAddr 0), some (.ref 0), some (.ref 130), some (.ref 138), some (.int i), none, none, none, none], [])) rfl rfl (w_256 (d := d + 3) hx) rfl ?_
  refine ax_Wp.go (f' := (1023, [some (.retAddr 0), some (.ref 0), some (.ref 130), some (.ref 138), some (.int i), some (.int r1.1), none, none, none], [.ref 130])) 2 rfl ?_
  refine bnd hD (fun r2 hx hD => ?_)
  refine ax_Wp.callE (f' := (1026, [some (.retAddr 0), some (.ref 0), some (.ref 130), some (.ref 138), some (.int i), some (.int r1.1), none, none, none], [])) rfl rfl (w_195 (d := d + 3) hx) rfl ?_
  refine ax_Wp.go (f' := (1029, [some (.retAddr 0), some (.ref 0), some (.ref 130), some (.ref 138), some (.int i), some (.int r1.1), some (.int r2.1), none, none], [.ref 130])) 2 rfl ?_
  refine bnd hD (fun x3 hx hD => ?_)
  refine ax_Wp.callE (f' := (1032, [some (.retAddr 0), some (.ref 0), some (.ref 130), some (.ref 138), some (.int i), some (.int r1.1), some (.int r2.1), none, none], [])) rfl rfl (w_142 (d := d + 10) hx) rfl ?_
  refine ax_Wp.go (f' := (1034, [some (.retAddr 0), some (.ref 0), some (.ref 130), some (.ref 138), some (.int i), some (.int r1.1), some (.int r2.1), none, none], [.int r1.1, .int x3])) 1 rfl ?_
  refine ax_Wp.brD hD rfl (fun _ hD => ?_) (fun _ hD => ?_)
  · refine ax_Wp.go (f' := (1041, [some (.retAddr 0), some (.ref 0), some (.ref 130), some (.ref 138), some (.int i), some (.int r1.1), some (.int r2.1), none, none], [.int r1.1])) 1 rfl ?_
    refine ax_Wp.brD hD rfl (fun _ hD => ?_) (fun _ hD => ?_)
    · refine ax_Wp.go (f' := (1046, [some (.retAddr 0), some (.ref 0), some (.ref 130), some (.ref 138), some (.int i), some (.int r1.1), some (.int r2.1), none, none], [.int (nI 0), .ref 138])) 2 rfl ?_
      refine ax_Wp.rdL hD rfl rfl rfl (fun x4 hD => ?_)
      refine ax_Wp.go (f' := (1051, [some (.retAddr 0), some (.ref 0), some (.ref 130), some (.ref 138), some (.int i), some (.int r1.1), some (.int r2.1), none, none], [.int (lg_cmp x4 r2.1.toInt64)])) 3 rfl ?_
      refine ax_Wp.brD hD rfl (fun _ hD => ?_) (fun _ hD => ?_)
      · refine ax_Wp.go (f' := (2778, [some (.retAddr 0), some (.ref 0), some (.ref 130), some (.ref 138), some (.int i), some (.int r1.1), some (.int r2.1), none, none], [])) 1 rfl ?_
        obtain rfl := inj hD
        exact ax_Wp.dead kk ⟨.inl rfl, ⟨.inl rfl, ⟨.inl rfl, ⟨.inl rfl, ⟨.inl rfl, ⟨.inr ⟨rfl, trivial⟩, ⟨.inr ⟨rfl, trivial⟩, ⟨.inl rfl, ⟨.inl rfl, trivial⟩⟩⟩⟩⟩⟩⟩⟩⟩
      · refine ax_Wp.go (f' := (1055, [some (.retAddr 0), some (.ref 0), some (.ref 130), some (.ref 138), some (.int i), some (.int r1.1), some (.int r2.1), none, none], [.int (nI 0)])) 1 rfl ?_
        obtain rfl := inj hD
        exact ax_Wp.ret rfl kk
    · refine ax_Wp.go (f' := (2778, [some (.retAddr 0), some (.ref 0), some (.ref 130), some (.ref 138), some (.int i), some (.int r1.1), some (.int r2.1), none, none], [])) 1 rfl ?_
      obtain rfl := inj hD
      exact ax_Wp.dead kk ⟨.inl rfl, ⟨.inl rfl, ⟨.inl rfl, ⟨.inl rfl, ⟨.inl rfl, ⟨.inr ⟨rfl, trivial⟩, ⟨.inr ⟨rfl, trivial⟩, ⟨.inl rfl, ⟨.inl rfl, trivial⟩⟩⟩⟩⟩⟩⟩⟩⟩
  · refine ax_Wp.go (f' := (1038, [some (.retAddr 0), some (.ref 0), some (.ref 130), some (.ref 138), some (.int i), some (.int r1.1), some (.int r2.1), none, none], [.int (nI 0)])) 1 rfl ?_
    obtain rfl := inj hD
    exact ax_Wp.ret rfl kk
def C14 (X : Nat × (Nat → Int32)) (m : dM) (i : Int32) : Option (dM ⊕ dM) := (D84 m).bind fun (x1 : Int32) => (D196 m).bind fun (r2 : Int32 × dM) => if x1 = r2.1 then some (.inl r2.2) else some (.inr r2.2)
set_option maxRecDepth 20000 in
theorem c_14 {X : Nat × (Nat → Int32)} {d : Nat} {Q : ax_O → ax_H → Prop} {m : dM} {i : Int32} {v : dM ⊕ dM} (hD : C14 X m i = some v) (kk : lwK X d Q i v) : ax_Wp X (d + 11 + 1) 283 (1059, [some (.retAddr 0), some (.ref 0), some (.ref 130), some (.ref 138), some (.int i), none, none, none, none], []) (stt m) Q := by
  unfold C14 at hD
  refine ax_Wp.go (f' := (1060, [some (.retAddr 0), some (.ref 0), some (.ref 130), some (.ref 138), some (.int i), none, none, none, none], [.ref 0])) 1 rfl ?_
  refine bnd hD (fun x1 hx hD => ?_)
  refine ax_Wp.callE (f' := (1063, [some (.retAddr 0), some (.ref 0), some (.ref 130), some (.ref 138), some (.int i), none, none, none, none], [])) rfl rfl (w_84 (d := d + 10) hx) rfl ?_
  refine ax_Wp.go (f' := (1064, [some (.retAddr 0), some (.ref 0), some (.ref 130), some (.ref 138), some (.int i), none, none, none, none], [.ref 130, .int x1])) 1 rfl ?_
  refine bnd hD (fun r2 hx hD => ?_)
  refine ax_Wp.callE (f' := (1067, [some (.retAddr 0), some (.ref 0), some (.ref 130), some (.ref 138), some (.int i), none, none, none, none], [.int x1])) rfl rfl (w_196 (d := d + 10) hx) rfl ?_
  refine ax_Wp.brD hD rfl (fun _ hD => ?_) (fun _ hD => ?_)
  · obtain rfl := inj hD
    exact kk
  · refine ax_Wp.go (f' := (1071, [some (.retAddr 0), some (.ref 0), some (.ref 130), some (.ref 138), some (.int i), none, none, none, none], [.int (nI 0)])) 1 rfl ?_
    obtain rfl := inj hD
    exact ax_Wp.ret rfl kk
def C15 (X : Nat × (Nat → Int32)) (m : dM) (i : Int32) : Option (dM ⊕ dM) := (D257 m).bind fun (r1 : Int32 × dM) => (D197 r1.2).bind fun (r2 : Int32 × dM) => (D142 r2.2).bind fun (x3 : Int32) => if x3 = r1.1 then if r1.1 = (nI 0) then (gL r2.2 138 1 (nI 0)).bind fun (x4 : Int64) => if (lg_cmp x4 r2.1.toInt64) = (nI 0) then some (.inl r2.2) else some (.inr r2.2) else some (.inl r2.2) else some (.inr r2.2)
set_option maxRecDepth 20000 in
theorem c_15 {X : Nat × (Nat → Int32)} {d : Nat} {Q : ax_O → ax_H → Prop} {m : dM} {i : Int32} {v : dM ⊕ dM} (hD : C15 X m i = some v) (kk : lwK X d Q i v) : ax_Wp X (d + 11 + 1) 283 (1072, [some (.retAddr 0), some (.ref 0), some (.ref 130), some (.ref 138), some (.int i), none, none, none, none], []) (stt m) Q := by
  unfold C15 at hD
  refine ax_Wp.go (f' := (1074, [some (.retAddr 0), some (.ref 0), some (.ref 130), some (.ref 138), some (.int i), none, none, none, none], [.ref 138, .ref 0])) 2 rfl ?_
  refine bnd hD (fun r1 hx hD => ?_)
  refine ax_Wp.callE (f' := (1077, [some (.retAddr 0), some (.ref 0), some (.ref 130), some (.ref 138), some (.int i), none, none, none, none], [])) rfl rfl (w_257 (d := d + 4) hx) rfl ?_
  refine ax_Wp.go (f' := (1080, [some (.retAddr 0), some (.ref 0), some (.ref 130), some (.ref 138), some (.int i), some (.int r1.1), none, none, none], [.ref 130])) 2 rfl ?_
  refine bnd hD (fun r2 hx hD => ?_)
  refine ax_Wp.callE (f' := (1083, [some (.retAddr 0), some (.ref 0), some (.ref 130), some (.ref 138), some (.int i), some (.int r1.1), none, none, none], [])) rfl rfl (w_197 (d := d + 9) hx) rfl ?_
  refine ax_Wp.go (f' := (1086, [some (.retAddr 0), some (.ref 0), some (.ref 130), some (.ref 138), some (.int i), some (.int r1.1), some (.int r2.1), none, none], [.ref 130])) 2 rfl ?_
  refine bnd hD (fun x3 hx hD => ?_)
  refine ax_Wp.callE (f' := (1089, [some (.retAddr 0), some (.ref 0), some (.ref 130), some (.ref 138), some (.int i), some (.int r1.1), some (.int r2.1), none, none], [])) rfl rfl (w_142 (d := d + 10) hx) rfl ?_
  refine ax_Wp.go (f' := (1091, [some (.retAddr 0), some (.ref 0), some (.ref 130), some (.ref 138), some (.int i), some (.int r1.1), some (.int r2.1), none, none], [.int r1.1, .int x3])) 1 rfl ?_
  refine ax_Wp.brD hD rfl (fun _ hD => ?_) (fun _ hD => ?_)
  · refine ax_Wp.go (f' := (1098, [some (.retAddr 0), some (.ref 0), some (.ref 130), some (.ref 138), some (.int i), some (.int r1.1), some (.int r2.1), none, none], [.int r1.1])) 1 rfl ?_
    refine ax_Wp.brD hD rfl (fun _ hD => ?_) (fun _ hD => ?_)
    · refine ax_Wp.go (f' := (1103, [some (.retAddr 0), some (.ref 0), some (.ref 130), some (.ref 138), some (.int i), some (.int r1.1), some (.int r2.1), none, none], [.int (nI 0), .ref 138])) 2 rfl ?_
      refine ax_Wp.rdL hD rfl rfl rfl (fun x4 hD => ?_)
      refine ax_Wp.go (f' := (1108, [some (.retAddr 0), some (.ref 0), some (.ref 130), some (.ref 138), some (.int i), some (.int r1.1), some (.int r2.1), none, none], [.int (lg_cmp x4 r2.1.toInt64)])) 3 rfl ?_
      refine ax_Wp.brD hD rfl (fun _ hD => ?_) (fun _ hD => ?_)
      · refine ax_Wp.go (f' := (2778, [some (.retAddr 0), some (.ref 0), some (.ref 130), some (.ref 138), some (.int i), some (.int r1.1), some (.int r2.1), none, none], [])) 1 rfl ?_
        obtain rfl := inj hD
        exact ax_Wp.dead kk ⟨.inl rfl, ⟨.inl rfl, ⟨.inl rfl, ⟨.inl rfl, ⟨.inl rfl, ⟨.inr ⟨rfl, trivial⟩, ⟨.inr ⟨rfl, trivial⟩, ⟨.inl rfl, ⟨.inl rfl, trivial⟩⟩⟩⟩⟩⟩⟩⟩⟩
      · refine ax_Wp.go (f' := (1112, [some (.retAddr 0), some (.ref 0), some (.ref 130), some (.ref 138), some (.int i), some (.int r1.1), some (.int r2.1), none, none], [.int (nI 0)])) 1 rfl ?_
        obtain rfl := inj hD
        exact ax_Wp.ret rfl kk
    · refine ax_Wp.go (f' := (2778, [some (.retAddr 0), some (.ref 0), some (.ref 130), some (.ref 138), some (.int i), some (.int r1.1), some (.int r2.1), none, none], [])) 1 rfl ?_
      obtain rfl := inj hD
      exact ax_Wp.dead kk ⟨.inl rfl, ⟨.inl rfl, ⟨.inl rfl, ⟨.inl rfl, ⟨.inl rfl, ⟨.inr ⟨rfl, trivial⟩, ⟨.inr ⟨rfl, trivial⟩, ⟨.inl rfl, ⟨.inl rfl, trivial⟩⟩⟩⟩⟩⟩⟩⟩⟩
  · refine ax_Wp.go (f' := (1095, [some (.retAddr 0), some (.ref 0), some (.ref 130), some (.ref 138), some (.int i), some (.int r1.1), some (.int r2.1), none, none], [.int (nI 0)])) 1 rfl ?_
    obtain rfl := inj hD
    exact ax_Wp.ret rfl kk
def C16 (X : Nat × (Nat → Int32)) (m : dM) (i : Int32) : Option (dM ⊕ dM) := (D258 m).bind fun (r1 : Int32 × dM) => (D198 r1.2).bind fun (r2 : Int32 × dM) => (D142 r2.2).bind fun (x3 : Int32) => if x3 = r1.1 then if r1.1 = (nI 0) then (gL r2.2 138 1 (nI 0)).bind fun (x4 : Int64) => if (lg_cmp x4 r2.1.toInt64) = (nI 0) then some (.inl r2.2) else some (.inr r2.2) else some (.inl r2.2) else some (.inr r2.2)
set_option maxRecDepth 20000 in
theorem c_16 {X : Nat × (Nat → Int32)} {d : Nat} {Q : ax_O → ax_H → Prop} {m : dM} {i : Int32} {v : dM ⊕ dM} (hD : C16 X m i = some v) (kk : lwK X d Q i v) : ax_Wp X (d + 11 + 1) 283 (1116, [some (.retAddr 0), some (.ref 0), some (.ref 130), some (.ref 138), some (.int i), none, none, none, none], []) (stt m) Q := by
  unfold C16 at hD
  refine ax_Wp.go (f' := (1118, [some (.retAddr 0), some (.ref 0), some (.ref 130), some (.ref 138), some (.int i), none, none, none, none], [.ref 138, .ref 0])) 2 rfl ?_
  refine bnd hD (fun r1 hx hD => ?_)
  refine ax_Wp.callE (f' := (1121, [some (.retAddr 0), some (.ref 0), some (.ref 130), some (.ref 138), some (.int i), none, none, none, none], [])) rfl rfl (w_258 (d := d + 4) hx) rfl ?_
  refine ax_Wp.go (f' := (1124, [some (.retAddr 0), some (.ref 0), some (.ref 130), some (.ref 138), some (.int i), some (.int r1.1), none, none, none], [.ref 130])) 2 rfl ?_
  refine bnd hD (fun r2 hx hD => ?_)
  refine ax_Wp.callE (f' := (1127, [some (.retAddr 0), some (.ref 0), some (.ref 130), some (.ref 138), some (.int i), some (.int r1.1), none, none, none], [])) rfl rfl (w_198 (d := d + 9) hx) rfl ?_
  refine ax_Wp.go (f' := (1130, [some (.retAddr 0), some (.ref 0), some (.ref 130), some (.ref 138), some (.int i), some (.int r1.1), some (.int r2.1), none, none], [.ref 130])) 2 rfl ?_
  refine bnd hD (fun x3 hx hD => ?_)
  refine ax_Wp.callE (f' := (1133, [some (.retAddr 0), some (.ref 0), some (.ref 130), some (.ref 138), some (.int i), some (.int r1.1), some (.int r2.1), none, none], [])) rfl rfl (w_142 (d := d + 10) hx) rfl ?_
  refine ax_Wp.go (f' := (1135, [some (.retAddr 0), some (.ref 0), some (.ref 130), some (.ref 138), some (.int i), some (.int r1.1), some (.int r2.1), none, none], [.int r1.1, .int x3])) 1 rfl ?_
  refine ax_Wp.brD hD rfl (fun _ hD => ?_) (fun _ hD => ?_)
  · refine ax_Wp.go (f' := (1142, [some (.retAddr 0), some (.ref 0), some (.ref 130), some (.ref 138), some (.int i), some (.int r1.1), some (.int r2.1), none, none], [.int r1.1])) 1 rfl ?_
    refine ax_Wp.brD hD rfl (fun _ hD => ?_) (fun _ hD => ?_)
    · refine ax_Wp.go (f' := (1147, [some (.retAddr 0), some (.ref 0), some (.ref 130), some (.ref 138), some (.int i), some (.int r1.1), some (.int r2.1), none, none], [.int (nI 0), .ref 138])) 2 rfl ?_
      refine ax_Wp.rdL hD rfl rfl rfl (fun x4 hD => ?_)
      refine ax_Wp.go (f' := (1152, [some (.retAddr 0), some (.ref 0), some (.ref 130), some (.ref 138), some (.int i), some (.int r1.1), some (.int r2.1), none, none], [.int (lg_cmp x4 r2.1.toInt64)])) 3 rfl ?_
      refine ax_Wp.brD hD rfl (fun _ hD => ?_) (fun _ hD => ?_)
      · refine ax_Wp.go (f' := (2778, [some (.retAddr 0), some (.ref 0), some (.ref 130), some (.ref 138), some (.int i), some (.int r1.1), some (.int r2.1), none, none], [])) 1 rfl ?_
        obtain rfl := inj hD
        exact ax_Wp.dead kk ⟨.inl rfl, ⟨.inl rfl, ⟨.inl rfl, ⟨.inl rfl, ⟨.inl rfl, ⟨.inr ⟨rfl, trivial⟩, ⟨.inr ⟨rfl, trivial⟩, ⟨.inl rfl, ⟨.inl rfl, trivial⟩⟩⟩⟩⟩⟩⟩⟩⟩
      · refine ax_Wp.go (f' := (1156, [some (.retAddr 0), some (.ref 0), some (.ref 130), some (.ref 138), some (.int i), some (.int r1.1), some (.int r2.1), none, none], [.int (nI 0)])) 1 rfl ?_
        obtain rfl := inj hD
        exact ax_Wp.ret rfl kk
    · refine ax_Wp.go (f' := (2778, [some (.retAddr 0), some (.ref 0), some (.ref 130), some (.ref 138), some (.int i), some (.int r1.1), some (.int r2.1), none, none], [])) 1 rfl ?_
      obtain rfl := inj hD
      exact ax_Wp.dead kk ⟨.inl rfl, ⟨.inl rfl, ⟨.inl rfl, ⟨.inl rfl, ⟨.inl rfl, ⟨.inr ⟨rfl, trivial⟩, ⟨.inr ⟨rfl, trivial⟩, ⟨.inl rfl, ⟨.inl rfl, trivial⟩⟩⟩⟩⟩⟩⟩⟩⟩
  · refine ax_Wp.go (f' := (1139, [some (.retAddr 0), some (.ref 0), some (.ref 130), some (.ref 138), some (.int i), some (.int r1.1), some (.int r2.1), none, none], [.int (nI 0)])) 1 rfl ?_
    obtain rfl := inj hD
    exact ax_Wp.ret rfl kk
def C17 (X : Nat × (Nat → Int32)) (m : dM) (i : Int32) : Option (dM ⊕ dM) := (D87 m).bind fun (r1 : Int32 × dM) => (D199 r1.2).bind fun (r2 : Int32 × dM) => if r1.1 = r2.1 then some (.inl r2.2) else some (.inr r2.2)
set_option maxRecDepth 20000 in
theorem c_17 {X : Nat × (Nat → Int32)} {d : Nat} {Q : ax_O → ax_H → Prop} {m : dM} {i : Int32} {v : dM ⊕ dM} (hD : C17 X m i = some v) (kk : lwK X d Q i v) : ax_Wp X (d + 11 + 1) 283 (1160, [some (.retAddr 0), some (.ref 0), some (.ref 130), some (.ref 138), some (.int i), none, none, none, none], []) (stt m) Q := by
  unfold C17 at hD
  refine ax_Wp.go (f' := (1161, [some (.retAddr 0), some (.ref 0), some (.ref 130), some (.ref 138), some (.int i), none, none, none, none], [.ref 0])) 1 rfl ?_
  refine bnd hD (fun r1 hx hD => ?_)
  refine ax_Wp.callE (f' := (1164, [some (.retAddr 0), some (.ref 0), some (.ref 130), some (.ref 138), some (.int i), none, none, none, none], [])) rfl rfl (w_87 (d := d + 8) hx) rfl ?_
  refine ax_Wp.go (f' := (1165, [some (.retAddr 0), some (.ref 0), some (.ref 130), some (.ref 138), some (.int i), none, none, none, none], [.ref 130, .int r1.1])) 1 rfl ?_
  refine bnd hD (fun r2 hx hD => ?_)
  refine ax_Wp.callE (f' := (1168, [some (.retAddr 0), some (.ref 0), some (.ref 130), some (.ref 138), some (.int i), none, none, none, none], [.int r1.1])) rfl rfl (w_199 (d := d + 10) hx) rfl ?_
  refine ax_Wp.brD hD rfl (fun _ hD => ?_) (fun _ hD => ?_)
  · obtain rfl := inj hD
    exact kk
  · refine ax_Wp.go (f' := (1172, [some (.retAddr 0), some (.ref 0), some (.ref 130), some (.ref 138), some (.int i), none, none, none, none], [.int (nI 0)])) 1 rfl ?_
    obtain rfl := inj hD
    exact ax_Wp.ret rfl kk
def C18 (X : Nat × (Nat → Int32)) (m : dM) (i : Int32) : Option (dM ⊕ dM) := (D259 m).bind fun (r1 : Int32 × dM) => (D200 r1.2).bind fun (r2 : Int32 × dM) => (D142 r2.2).bind fun (x3 : Int32) => if x3 = r1.1 then if r1.1 = (nI 0) then (gL r2.2 138 1 (nI 0)).bind fun (x4 : Int64) => if (lg_cmp x4 r2.1.toInt64) = (nI 0) then some (.inl r2.2) else some (.inr r2.2) else some (.inl r2.2) else some (.inr r2.2)
set_option maxRecDepth 20000 in
theorem c_18 {X : Nat × (Nat → Int32)} {d : Nat} {Q : ax_O → ax_H → Prop} {m : dM} {i : Int32} {v : dM ⊕ dM} (hD : C18 X m i = some v) (kk : lwK X d Q i v) : ax_Wp X (d + 11 + 1) 283 (1173, [some (.retAddr 0), some (.ref 0), some (.ref 130), some (.ref 138), some (.int i), none, none, none, none], []) (stt m) Q := by
  unfold C18 at hD
  refine ax_Wp.go (f' := (1175, [some (.retAddr 0), some (.ref 0), some (.ref 130), some (.ref 138), some (.int i), none, none, none, none], [.ref 138, .ref 0])) 2 rfl ?_
  refine bnd hD (fun r1 hx hD => ?_)
  refine ax_Wp.callE (f' := (1178, [some (.retAddr 0), some (.ref 0), some (.ref 130), some (.ref 138), some (.int i), none, none, none, none], [])) rfl rfl (w_259 (d := d + 4) hx) rfl ?_
  refine ax_Wp.go (f' := (1181, [some (.retAddr 0), some (.ref 0), some (.ref 130), some (.ref 138), some (.int i), some (.int r1.1), none, none, none], [.ref 130])) 2 rfl ?_
  refine bnd hD (fun r2 hx hD => ?_)
  refine ax_Wp.callE (f' := (1184, [some (.retAddr 0), some (.ref 0), some (.ref 130), some (.ref 138), some (.int i), some (.int r1.1), none, none, none], [])) rfl rfl (w_200 (d := d + 9) hx) rfl ?_
  refine ax_Wp.go (f' := (1187, [some (.retAddr 0), some (.ref 0), some (.ref 130), some (.ref 138), some (.int i), some (.int r1.1), some (.int r2.1), none, none], [.ref 130])) 2 rfl ?_
  refine bnd hD (fun x3 hx hD => ?_)
  refine ax_Wp.callE (f' := (1190, [some (.retAddr 0), some (.ref 0), some (.ref 130), some (.ref 138), some (.int i), some (.int r1.1), some (.int r2.1), none, none], [])) rfl rfl (w_142 (d := d + 10) hx) rfl ?_
  refine ax_Wp.go (f' := (1192, [some (.retAddr 0), some (.ref 0), some (.ref 130), some (.ref 138), some (.int i), some (.int r1.1), some (.int r2.1), none, none], [.int r1.1, .int x3])) 1 rfl ?_
  refine ax_Wp.brD hD rfl (fun _ hD => ?_) (fun _ hD => ?_)
  · refine ax_Wp.go (f' := (1199, [some (.retAddr 0), some (.ref 0), some (.ref 130), some (.ref 138), some (.int i), some (.int r1.1), some (.int r2.1), none, none], [.int r1.1])) 1 rfl ?_
    refine ax_Wp.brD hD rfl (fun _ hD => ?_) (fun _ hD => ?_)
    · refine ax_Wp.go (f' := (1204, [some (.retAddr 0), some (.ref 0), some (.ref 130), some (.ref 138), some (.int i), some (.int r1.1), some (.int r2.1), none, none], [.int (nI 0), .ref 138])) 2 rfl ?_
      refine ax_Wp.rdL hD rfl rfl rfl (fun x4 hD => ?_)
      refine ax_Wp.go (f' := (1209, [some (.retAddr 0), some (.ref 0), some (.ref 130), some (.ref 138), some (.int i), some (.int r1.1), some (.int r2.1), none, none], [.int (lg_cmp x4 r2.1.toInt64)])) 3 rfl ?_
      refine ax_Wp.brD hD rfl (fun _ hD => ?_) (fun _ hD => ?_)
      · refine ax_Wp.go (f' := (2778, [some (.retAddr 0), some (.ref 0), some (.ref 130), some (.ref 138), some (.int i), some (.int r1.1), some (.int r2.1), none, none], [])) 1 rfl ?_
        obtain rfl := inj hD
        exact ax_Wp.dead kk ⟨.inl rfl, ⟨.inl rfl, ⟨.inl rfl, ⟨.inl rfl, ⟨.inl rfl, ⟨.inr ⟨rfl, trivial⟩, ⟨.inr ⟨rfl, trivial⟩, ⟨.inl rfl, ⟨.inl rfl, trivial⟩⟩⟩⟩⟩⟩⟩⟩⟩
      · refine ax_Wp.go (f' := (1213, [some (.retAddr 0), some (.ref 0), some (.ref 130), some (.ref 138), some (.int i), some (.int r1.1), some (.int r2.1), none, none], [.int (nI 0)])) 1 rfl ?_
        obtain rfl := inj hD
        exact ax_Wp.ret rfl kk
    · refine ax_Wp.go (f' := (2778, [some (.retAddr 0), some (.ref 0), some (.ref 130), some (.ref 138), some (.int i), some (.int r1.1), some (.int r2.1), none, none], [])) 1 rfl ?_
      obtain rfl := inj hD
      exact ax_Wp.dead kk ⟨.inl rfl, ⟨.inl rfl, ⟨.inl rfl, ⟨.inl rfl, ⟨.inl rfl, ⟨.inr ⟨rfl, trivial⟩, ⟨.inr ⟨rfl, trivial⟩, ⟨.inl rfl, ⟨.inl rfl, trivial⟩⟩⟩⟩⟩⟩⟩⟩⟩
  · refine ax_Wp.go (f' := (1196, [some (.retAddr 0), some (.ref 0), some (.ref 130), some (.ref 138), some (.int i), some (.int r1.1), some (.int r2.1), none, none], [.int (nI 0)])) 1 rfl ?_
    obtain rfl := inj hD
    exact ax_Wp.ret rfl kk
def C19 (X : Nat × (Nat → Int32)) (m : dM) (i : Int32) : Option (dM ⊕ dM) := (D89 m).bind fun (x1 : Int32) => (D201 m).bind fun (r2 : Int32 × dM) => if x1 = r2.1 then some (.inl r2.2) else some (.inr r2.2)
set_option maxRecDepth 20000 in
theorem c_19 {X : Nat × (Nat → Int32)} {d : Nat} {Q : ax_O → ax_H → Prop} {m : dM} {i : Int32} {v : dM ⊕ dM} (hD : C19 X m i = some v) (kk : lwK X d Q i v) : ax_Wp X (d + 11 + 1) 283 (1217, [some (.retAddr 0), some (.ref 0), some (.ref 130), some (.ref 138), some (.int i), none, none, none, none], []) (stt m) Q := by
  unfold C19 at hD
  refine ax_Wp.go (f' := (1218, [some (.retAddr 0), some (.ref 0), some (.ref 130), some (.ref 138), some (.int i), none, none, none, none], [.ref 0])) 1 rfl ?_
  refine bnd hD (fun x1 hx hD => ?_)
  refine ax_Wp.callE (f' := (1221, [some (.retAddr 0), some (.ref 0), some (.ref 130), some (.ref 138), some (.int i), none, none, none, none], [])) rfl rfl (w_89 (d := d + 10) hx) rfl ?_
  refine ax_Wp.go (f' := (1222, [some (.retAddr 0), some (.ref 0), some (.ref 130), some (.ref 138), some (.int i), none, none, none, none], [.ref 130, .int x1])) 1 rfl ?_
  refine bnd hD (fun r2 hx hD => ?_)
  refine ax_Wp.callE (f' := (1225, [some (.retAddr 0), some (.ref 0), some (.ref 130), some (.ref 138), some (.int i), none, none, none, none], [.int x1])) rfl rfl (w_201 (d := d + 10) hx) rfl ?_
  refine ax_Wp.brD hD rfl (fun _ hD => ?_) (fun _ hD => ?_)
  · obtain rfl := inj hD
    exact kk
  · refine ax_Wp.go (f' := (1229, [some (.retAddr 0), some (.ref 0), some (.ref 130), some (.ref 138), some (.int i), none, none, none, none], [.int (nI 0)])) 1 rfl ?_
    obtain rfl := inj hD
    exact ax_Wp.ret rfl kk
def C20 (X : Nat × (Nat → Int32)) (m : dM) (i : Int32) : Option (dM ⊕ dM) := (D90 m).bind fun (x1 : Int32) => (D202 m).bind fun (r2 : Int32 × dM) => if x1 = r2.1 then some (.inl r2.2) else some (.inr r2.2)
set_option maxRecDepth 20000 in
theorem c_20 {X : Nat × (Nat → Int32)} {d : Nat} {Q : ax_O → ax_H → Prop} {m : dM} {i : Int32} {v : dM ⊕ dM} (hD : C20 X m i = some v) (kk : lwK X d Q i v) : ax_Wp X (d + 11 + 1) 283 (1230, [some (.retAddr 0), some (.ref 0), some (.ref 130), some (.ref 138), some (.int i), none, none, none, none], []) (stt m) Q := by
  unfold C20 at hD
  refine ax_Wp.go (f' := (1231, [some (.retAddr 0), some (.ref 0), some (.ref 130), some (.ref 138), some (.int i), none, none, none, none], [.ref 0])) 1 rfl ?_
  refine bnd hD (fun x1 hx hD => ?_)
  refine ax_Wp.callE (f' := (1234, [some (.retAddr 0), some (.ref 0), some (.ref 130), some (.ref 138), some (.int i), none, none, none, none], [])) rfl rfl (w_90 (d := d + 10) hx) rfl ?_
  refine ax_Wp.go (f' := (1235, [some (.retAddr 0), some (.ref 0), some (.ref 130), some (.ref 138), some (.int i), none, none, none, none], [.ref 130, .int x1])) 1 rfl ?_
  refine bnd hD (fun r2 hx hD => ?_)
  refine ax_Wp.callE (f' := (1238, [some (.retAddr 0), some (.ref 0), some (.ref 130), some (.ref 138), some (.int i), none, none, none, none], [.int x1])) rfl rfl (w_202 (d := d + 10) hx) rfl ?_
  refine ax_Wp.brD hD rfl (fun _ hD => ?_) (fun _ hD => ?_)
  · obtain rfl := inj hD
    exact kk
  · refine ax_Wp.go (f' := (1242, [some (.retAddr 0), some (.ref 0), some (.ref 130), some (.ref 138), some (.int i), none, none, none, none], [.int (nI 0)])) 1 rfl ?_
    obtain rfl := inj hD
    exact ax_Wp.ret rfl kk
def C21 (X : Nat × (Nat → Int32)) (m : dM) (i : Int32) : Option (dM ⊕ dM) := (gX X (i + (nI 1))).bind fun (x1 : Int32) => (D260 m x1).bind fun (r2 : Int32 × dM) => (gX X (i + (nI 1))).bind fun (x3 : Int32) => (D203 r2.2 x3).bind fun (r4 : Int32 × dM) => (D142 r4.2).bind fun (x5 : Int32) => if x5 = r2.1 then if r2.1 = (nI 0) then (gL r4.2 138 1 (nI 0)).bind fun (x6 : Int64) => if (lg_cmp x6 r4.1.toInt64) = (nI 0) then some (.inl r4.2) else some (.inr r4.2) else some (.inl r4.2) else some (.inr r4.2)
set_option maxRecDepth 20000 in
theorem c_21 {X : Nat × (Nat → Int32)} {d : Nat} {Q : ax_O → ax_H → Prop} {m : dM} {i : Int32} {v : dM ⊕ dM} (hD : C21 X m i = some v) (kk : lwK X d Q i v) : ax_Wp X (d + 11 + 1) 283 (1243, [some (.retAddr 0), some (.ref 0), some (.ref 130), some (.ref 138), some (.int i), none, none, none, none], []) (stt m) Q := by
  unfold C21 at hD
  refine ax_Wp.go (f' := (1249, [some (.retAddr 0), some (.ref 0), some (.ref 130), some (.ref 138), some (.int i), none, none, none, none], [.int (i + (nI 1)), .retAddr 0, .ref 0])) 5 rfl ?_
  refine ax_Wp.rdX hD rfl (fun x1 hD => ?_)
  refine ax_Wp.go (f' := (1251, [some (.retAddr 0), some (.ref 0), some (.ref 130), some (.ref 138), some (.int i), none, none, none, none], [.ref 138, .int x1, .ref 0])) 1 rfl ?_
  refine bnd hD (fun r2 hx hD => ?_)
  refine ax_Wp.callE (f' := (1254, [some (.retAddr 0), some (.ref 0), some (.ref 130), some (.ref 138), some (.int i), none, none, none, none], [])) rfl rfl (w_260 (d := d + 3) hx) rfl ?_
  refine ax_Wp.go (f' := (1262, [some (.retAddr 0), some (.ref 0), some (.ref 130), some (.ref 138), some (.int i), some (.int r2.1), none, none, none], [.int (i + (nI 1)), .retAddr 0, .ref 130])) 6 rfl ?_
  refine ax_Wp.rdX hD rfl (fun x3 hD => ?_)
  refine bnd hD (fun r4 hx hD => ?_)
  refine ax_Wp.callE (f' := (1266, [some (.retAddr 0), some (.ref 0), some (.ref 130), some (.ref 138), some (.int i), some (.int r2.1), none, none, none], [])) rfl rfl (w_203 (d := d + 8) hx) rfl ?_
  refine ax_Wp.go (f' := (1269, [some (.retAddr 0), some (.ref 0), some (.ref 130), some (.ref 138), some (.int i), some (.int r2.1), some (.int r4.1), none, none], [.ref 130])) 2 rfl ?_
  refine bnd hD (fun x5 hx hD => ?_)
  refine ax_Wp.callE (f' := (1272, [some (.retAddr 0), some (.ref 0), some (.ref 130), some (.ref 138), some (.int i), some (.int r2.1), some (.int r4.1), none, none], [])) rfl rfl (w_142 (d := d + 10) hx) rfl ?_
  refine ax_Wp.go (f' := (1274, [some (.retAddr 0), some (.ref 0), some (.ref 130), some (.ref 138), some (.int i), some (.int r2.1), some (.int r4.1), none, none], [.int r2.1, .int x5])) 1 rfl ?_
  refine ax_Wp.brD hD rfl (fun _ hD => ?_) (fun _ hD => ?_)
  · refine ax_Wp.go (f' := (1281, [some (.retAddr 0), some (.ref 0), some (.ref 130), some (.ref 138), some (.int i), some (.int r2.1), some (.int r4.1), none, none], [.int r2.1])) 1 rfl ?_
    refine ax_Wp.brD hD rfl (fun _ hD => ?_) (fun _ hD => ?_)
    · refine ax_Wp.go (f' := (1286, [some (.retAddr 0), some (.ref 0), some (.ref 130), some (.ref 138), some (.int i), some (.int r2.1), some (.int r4.1), none, none], [.int (nI 0), .ref 138])) 2 rfl ?_
      refine ax_Wp.rdL hD rfl rfl rfl (fun x6 hD => ?_)
      refine ax_Wp.go (f' := (1291, [some (.retAddr 0), some (.ref 0), some (.ref 130), some (.ref 138), some (.int i), some (.int r2.1), some (.int r4.1), none, none], [.int (lg_cmp x6 r4.1.toInt64)])) 3 rfl ?_
      refine ax_Wp.brD hD rfl (fun _ hD => ?_) (fun _ hD => ?_)
      · refine ax_Wp.go (f' := (2778, [some (.retAddr 0), some (.ref 0), some (.ref 130), some (.ref 138), some (.int i), some (.int r2.1), some (.int r4.1), none, none], [])) 1 rfl ?_
        obtain rfl := inj hD
        exact ax_Wp.dead kk ⟨.inl rfl, ⟨.inl rfl, ⟨.inl rfl, ⟨.inl rfl, ⟨.inl rfl, ⟨.inr ⟨rfl, trivial⟩, ⟨.inr ⟨rfl, trivial⟩, ⟨.inl rfl, ⟨.inl rfl, trivial⟩⟩⟩⟩⟩⟩⟩⟩⟩
      · refine ax_Wp.go (f' := (1295, [some (.retAddr 0), some (.ref 0), some (.ref 130), some (.ref 138), some (.int i), some (.int r2.1), some (.int r4.1), none, none], [.int (nI 0)])) 1 rfl ?_
        obtain rfl := inj hD
        exact ax_Wp.ret rfl kk
    · refine ax_Wp.go (f' := (2778, [some (.retAddr 0), some (.ref 0), some (.ref 130), some (.ref 138), some (.int i), some (.int r2.1), some (.int r4.1), none, none], [])) 1 rfl ?_
      obtain rfl := inj hD
      exact ax_Wp.dead kk ⟨.inl rfl, ⟨.inl rfl, ⟨.inl rfl, ⟨.inl rfl, ⟨.inl rfl, ⟨.inr ⟨rfl, trivial⟩, ⟨.inr ⟨rfl, trivial⟩, ⟨.inl rfl, ⟨.inl rfl, trivial⟩⟩⟩⟩⟩⟩⟩⟩⟩
  · refine ax_Wp.go (f' := (1278, [some (.retAddr 0), some (.ref 0), some (.ref 130), some (.ref 138), some (.int i), some (.int r2.1), some (.int r4.1), none, none], [.int (nI 0)])) 1 rfl ?_
    obtain rfl := inj hD
    exact ax_Wp.ret rfl kk
def C22 (X : Nat × (Nat → Int32)) (m : dM) (i : Int32) : Option (dM ⊕ dM) := (gX X (i + (nI 1))).bind fun (x1 : Int32) => (D261 m x1).bind fun (r2 : Int32 × dM) => (gX X (i + (nI 1))).bind fun (x3 : Int32) => (D204 r2.2 x3).bind fun (r4 : Int32 × dM) => (D142 r4.2).bind fun (x5 : Int32) => if x5 = r2.1 then if r2.1 = (nI 0) then (gL r4.2 138 1 (nI 0)).bind fun (x6 : Int64) => if (lg_cmp x6 r4.1.toInt64) = (nI 0) then some (.inl r4.2) else some (.inr r4.2) else some (.inl r4.2) else some (.inr r4.2)
set_option maxRecDepth 20000 in
theorem c_22 {X : Nat × (Nat → Int32)} {d : Nat} {Q : ax_O → ax_H → Prop} {m : dM} {i : Int32} {v : dM ⊕ dM} (hD : C22 X m i = some v) (kk : lwK X d Q i v) : ax_Wp X (d + 11 + 1) 283 (1299, [some (.retAddr 0), some (.ref 0), some (.ref 130), some (.ref 138), some (.int i), none, none, none, none], []) (stt m) Q := by
  unfold C22 at hD
  refine ax_Wp.go (f' := (1305, [some (.retAddr 0), some (.ref 0), some (.ref 130), some (.ref 138), some (.int i), none, none, none, none], [.int (i + (nI 1)), .retAddr 0, .ref 0])) 5 rfl ?_
  refine ax_Wp.rdX hD rfl (fun x1 hD => ?_)
  refine ax_Wp.go (f' := (1307, [some (.retAddr 0), some (.ref 0), some (.ref 130), some (.ref 138), some (.int i), none, none, none, none], [.ref 138, .int x1, .ref 0])) 1 rfl ?_
  refine bnd hD (fun r2 hx hD => ?_)
  refine ax_Wp.callE (f' := (1310, [some (.retAddr 0), some (.ref 0), some (.ref 130), some (.ref 138), some (.int i), none, none, none, none], [])) rfl rfl (w_261 (d := d + 3) hx) rfl ?_
  refine ax_Wp.go (f' := (1318, [some (.retAddr 0), some (.ref 0), some (.ref 130), some (.ref 138), some (.int i), some (.int r2.1), none, none, none], [.int (i + (nI 1)), .retAddr 0, .ref 130])) 6 rfl ?_
  refine ax_Wp.rdX hD rfl (fun x3 hD => ?_)
  refine bnd hD (fun r4 hx hD => ?_)
  refine ax_Wp.callE (f' := (1322, [some (.retAddr 0), some (.ref 0), some (.ref 130), some (.ref 138), some (.int i), some (.int r2.1), none, none, none], [])) rfl rfl (w_204 (d := d + 8) hx) rfl ?_
  refine ax_Wp.go (f' := (1325, [some (.retAddr 0), some (.ref 0), some (.ref 130), some (.ref 138), some (.int i), some (.int r2.1), some (.int r4.1), none, none], [.ref 130])) 2 rfl ?_
  refine bnd hD (fun x5 hx hD => ?_)
  refine ax_Wp.callE (f' := (1328, [some (.retAddr 0), some (.ref 0), some (.ref 130), some (.ref 138), some (.int i), some (.int r2.1), some (.int r4.1), none, none], [])) rfl rfl (w_142 (d := d + 10) hx) rfl ?_
  refine ax_Wp.go (f' := (1330, [some (.retAddr 0), some (.ref 0), some (.ref 130), some (.ref 138), some (.int i), some (.int r2.1), some (.int r4.1), none, none], [.int r2.1, .int x5])) 1 rfl ?_
  refine ax_Wp.brD hD rfl (fun _ hD => ?_) (fun _ hD => ?_)
  · refine ax_Wp.go (f' := (1337, [some (.retAddr 0), some (.ref 0), some (.ref 130), some (.ref 138), some (.int i), some (.int r2.1), some (.int r4.1), none, none], [.int r2.1])) 1 rfl ?_
    refine ax_Wp.brD hD rfl (fun _ hD => ?_) (fun _ hD => ?_)
    · refine ax_Wp.go (f' := (1342, [some (.retAddr 0), some (.ref 0), some (.ref 130), some (.ref 138), some (.int i), some (.int r2.1), some (.int r4.1), none, none], [.int (nI 0), .ref 138])) 2 rfl ?_
      refine ax_Wp.rdL hD rfl rfl rfl (fun x6 hD => ?_)
      refine ax_Wp.go (f' := (1347, [some (.retAddr 0), some (.ref 0), some (.ref 130), some (.ref 138), some (.int i), some (.int r2.1), some (.int r4.1), none, none], [.int (lg_cmp x6 r4.1.toInt64)])) 3 rfl ?_
      refine ax_Wp.brD hD rfl (fun _ hD => ?_) (fun _ hD => ?_)
      · refine ax_Wp.go (f' := (2778, [some (.retAddr 0), some (.ref 0), some (.ref 130), some (.ref 138), some (.int i), some (.int r2.1), some (.int r4.1), none, none], [])) 1 rfl ?_
        obtain rfl := inj hD
        exact ax_Wp.dead kk ⟨.inl rfl, ⟨.inl rfl, ⟨.inl rfl, ⟨.inl rfl, ⟨.inl rfl, ⟨.inr ⟨rfl, trivial⟩, ⟨.inr ⟨rfl, trivial⟩, ⟨.inl rfl, ⟨.inl rfl, trivial⟩⟩⟩⟩⟩⟩⟩⟩⟩
      · refine ax_Wp.go (f' := (1351, [some (.retAddr 0), some (.ref 0), some (.ref 130), some (.ref 138), some (.int i), some (.int r2.1), some (.int r4.1), none, none], [.int (nI 0)])) 1 rfl ?_
        obtain rfl := inj hD
        exact ax_Wp.ret rfl kk
    · refine ax_Wp.go (f' := (2778, [some (.retAddr 0), some (.ref 0), some (.ref 130), some (.ref 138), some (.int i), some (.int r2.1), some (.int r4.1), none, none], [])) 1 rfl ?_
      obtain rfl := inj hD
      exact ax_Wp.dead kk ⟨.inl rfl, ⟨.inl rfl, ⟨.inl rfl, ⟨.inl rfl, ⟨.inl rfl, ⟨.inr ⟨rfl, trivial⟩, ⟨.inr ⟨rfl, trivial⟩, ⟨.inl rfl, ⟨.inl rfl, trivial⟩⟩⟩⟩⟩⟩⟩⟩⟩
  · refine ax_Wp.go (f' := (1334, [some (.retAddr 0), some (.ref 0), some (.ref 130), some (.ref 138), some (.int i), some (.int r2.1), some (.int r4.1), none, none], [.int (nI 0)])) 1 rfl ?_
    obtain rfl := inj hD
    exact ax_Wp.ret rfl kk
def C23 (X : Nat × (Nat → Int32)) (m : dM) (i : Int32) : Option (dM ⊕ dM) := (gX X (i + (nI 1))).bind fun (x1 : Int32) => (D262 m x1).bind fun (r2 : Int32 × dM) => (gX X (i + (nI 1))).bind fun (x3 : Int32) => (D205 r2.2 x3).bind fun (r4 : Int32 × dM) => (D142 r4.2).bind fun (x5 : Int32) => if x5 = r2.1 then if r2.1 = (nI 0) then (gL r4.2 138 1 (nI 0)).bind fun (x6 : Int64) => Option.bind ((if r4.1 = (nI 0) then some (0 : Int64) else some (1 : Int64)) : Option (Int64)) fun (v7 : Int64) => if (lg_cmp x6 v7) = (nI 0) then some (.inl r4.2) else some (.inr r4.2) else some (.inl r4.2) else some (.inr r4.2)
set_option maxRecDepth 20000 in
theorem c_23 {X : Nat × (Nat → Int32)} {d : Nat} {Q : ax_O → ax_H → Prop} {m : dM} {i : Int32} {v : dM ⊕ dM} (hD : C23 X m i = some v) (kk : lwK X d Q i v) : ax_Wp X (d + 11 + 1) 283 (1355, [some (.retAddr 0), some (.ref 0), some (.ref 130), some (.ref 138), some (.int i), none, none, none, none], []) (stt m) Q := by
  unfold C23 at hD
  refine ax_Wp.go (f' := (1361, [some (.retAddr 0), some (.ref 0), some (.ref 130), some (.ref 138), some (.int i), none, none, none, none], [.int (i + (nI 1)), .retAddr 0, .ref 0])) 5 rfl ?_
  refine ax_Wp.rdX hD rfl (fun x1 hD => ?_)
  refine ax_Wp.go (f' := (1363, [some (.retAddr 0), some (.ref 0), some (.ref 130), some (.ref 138), some (.int i), none, none, none, none], [.ref 138, .int x1, .ref 0])) 1 rfl ?_
  refine bnd hD (fun r2 hx hD => ?_)
  refine ax_Wp.callE (f' := (1366, [some (.retAddr 0), some (.ref 0), some (.ref 130), some (.ref 138), some (.int i), none, none, none, none], [])) rfl rfl (w_262 (d := d + 3) hx) rfl ?_
  refine ax_Wp.go (f' := (1374, [some (.retAddr 0), some (.ref 0), some (.ref 130), some (.ref 138), some (.int i), some (.int r2.1), none, none, none], [.int (i + (nI 1)), .retAddr 0, .ref 130])) 6 rfl ?_
  refine ax_Wp.rdX hD rfl (fun x3 hD => ?_)
  refine bnd hD (fun r4 hx hD => ?_)
  refine ax_Wp.callE (f' := (1378, [some (.retAddr 0), some (.ref 0), some (.ref 130), some (.ref 138), some (.int i), some (.int r2.1), none, none, none], [])) rfl rfl (w_205 (d := d + 8) hx) rfl ?_
  refine ax_Wp.go (f' := (1381, [some (.retAddr 0), some (.ref 0), some (.ref 130), some (.ref 138), some (.int i), some (.int r2.1), some (.int r4.1), none, none], [.ref 130])) 2 rfl ?_
  refine bnd hD (fun x5 hx hD => ?_)
  refine ax_Wp.callE (f' := (1384, [some (.retAddr 0), some (.ref 0), some (.ref 130), some (.ref 138), some (.int i), some (.int r2.1), some (.int r4.1), none, none], [])) rfl rfl (w_142 (d := d + 10) hx) rfl ?_
  refine ax_Wp.go (f' := (1386, [some (.retAddr 0), some (.ref 0), some (.ref 130), some (.ref 138), some (.int i), some (.int r2.1), some (.int r4.1), none, none], [.int r2.1, .int x5])) 1 rfl ?_
  refine ax_Wp.brD hD rfl (fun _ hD => ?_) (fun _ hD => ?_)
  · refine ax_Wp.go (f' := (1393, [some (.retAddr 0), some (.ref 0), some (.ref 130), some (.ref 138), some (.int i), some (.int r2.1), some (.int r4.1), none, none], [.int r2.1])) 1 rfl ?_
    refine ax_Wp.brD hD rfl (fun _ hD => ?_) (fun _ hD => ?_)
    · refine ax_Wp.go (f' := (1398, [some (.retAddr 0), some (.ref 0), some (.ref 130), some (.ref 138), some (.int i), some (.int r2.1), some (.int r4.1), none, none], [.int (nI 0), .ref 138])) 2 rfl ?_
      refine ax_Wp.rdL hD rfl rfl rfl (fun x6 hD => ?_)
      refine ax_Wp.go (f' := (1401, [some (.retAddr 0), some (.ref 0), some (.ref 130), some (.ref 138), some (.int i), some (.int r2.1), some (.int r4.1), none, none], [.int r4.1, .long x6])) 1 rfl ?_
      refine bnd hD (fun v7 hx hD => ?_)
      refine ax_Wp.jn (F := (1409, [some (.retAddr 0), some (.ref 0), some (.ref 130), some (.ref 138), some (.int i), none, none, none, none], [.long v7, .long x6])) (hh := stt r4.2) ?_ (fun kkv7 => ?_)
      · refine ax_Wp.go (f' := (1410, [some (.retAddr 0), some (.ref 0), some (.ref 130), some (.ref 138), some (.int i), none, none, none, none], [.int (lg_cmp x6 v7)])) 1 rfl ?_
        refine ax_Wp.brD hD rfl (fun _ hD => ?_) (fun _ hD => ?_)
        · refine ax_Wp.go (f' := (2778, [some (.retAddr 0), some (.ref 0), some (.ref 130), some (.ref 138), some (.int i), none, none, none, none], [])) 1 rfl ?_
          obtain rfl := inj hD
          exact kk
        · refine ax_Wp.go (f' := (1414, [some (.retAddr 0), some (.ref 0), some (.ref 130), some (.ref 138), some (.int i), none, none, none, none], [.int (nI 0)])) 1 rfl ?_
          obtain rfl := inj hD
          exact ax_Wp.ret rfl kk
      clear hD
      have hD := hx
      clear hx
      refine ax_Wp.brD hD rfl (fun _ hD => ?_) (fun _ hD => ?_)
      · refine ax_Wp.go (f' := (1409, [some (.retAddr 0), some (.ref 0), some (.ref 130), some (.ref 138), some (.int i), some (.int r2.1), some (.int r4.1), none, none], [.long (0 : Int64), .long x6])) 1 rfl ?_
        obtain rfl := inj hD
        exact ax_Wp.dead kkv7 ⟨.inl rfl, ⟨.inl rfl, ⟨.inl rfl, ⟨.inl rfl, ⟨.inl rfl, ⟨.inr ⟨rfl, trivial⟩, ⟨.inr ⟨rfl, trivial⟩, ⟨.inl rfl, ⟨.inl rfl, trivial⟩⟩⟩⟩⟩⟩⟩⟩⟩
      · refine ax_Wp.go (f' := (1409, [some (.retAddr 0), some (.ref 0), some (.ref 130), some (.ref 138), some (.int i), some (.int r2.1), some (.int r4.1), none, none], [.long (1 : Int64), .long x6])) 2 rfl ?_
        obtain rfl := inj hD
        exact ax_Wp.dead kkv7 ⟨.inl rfl, ⟨.inl rfl, ⟨.inl rfl, ⟨.inl rfl, ⟨.inl rfl, ⟨.inr ⟨rfl, trivial⟩, ⟨.inr ⟨rfl, trivial⟩, ⟨.inl rfl, ⟨.inl rfl, trivial⟩⟩⟩⟩⟩⟩⟩⟩⟩
    · refine ax_Wp.go (f' := (2778, [some (.retAddr 0), some (.ref 0), some (.ref 130), some (.ref 138), some (.int i), some (.int r2.1), some (.int r4.1), none, none], [])) 1 rfl ?_
      obtain rfl := inj hD
      exact ax_Wp.dead kk ⟨.inl rfl, ⟨.inl rfl, ⟨.inl rfl, ⟨.inl rfl, ⟨.inl rfl, ⟨.inr ⟨rfl, trivial⟩, ⟨.inr ⟨rfl, trivial⟩, ⟨.inl rfl, ⟨.inl rfl, trivial⟩⟩⟩⟩⟩⟩⟩⟩⟩
  · refine ax_Wp.go (f' := (1390, [some (.retAddr 0), some (.ref 0), some (.ref 130), some (.ref 138), some (.int i), some (.int r2.1), some (.int r4.1), none, none], [.int (nI 0)])) 1 rfl ?_
    obtain rfl := inj hD
    exact ax_Wp.ret rfl kk
def C24 (X : Nat × (Nat → Int32)) (m : dM) (i : Int32) : Option (dM ⊕ dM) := (gX X (i + (nI 1))).bind fun (x1 : Int32) => (D263 m x1).bind fun (r2 : Int32 × dM) => (gX X (i + (nI 1))).bind fun (x3 : Int32) => (D207 r2.2 x3).bind fun (r4 : Int32 × dM) => (D142 r4.2).bind fun (x5 : Int32) => if x5 = r2.1 then if r2.1 = (nI 0) then (gL r4.2 138 1 (nI 0)).bind fun (x6 : Int64) => if (lg_cmp x6 r4.1.toInt64) = (nI 0) then some (.inl r4.2) else some (.inr r4.2) else some (.inl r4.2) else some (.inr r4.2)
set_option maxRecDepth 20000 in
theorem c_24 {X : Nat × (Nat → Int32)} {d : Nat} {Q : ax_O → ax_H → Prop} {m : dM} {i : Int32} {v : dM ⊕ dM} (hD : C24 X m i = some v) (kk : lwK X d Q i v) : ax_Wp X (d + 11 + 1) 283 (1418, [some (.retAddr 0), some (.ref 0), some (.ref 130), some (.ref 138), some (.int i), none, none, none, none], []) (stt m) Q := by
  unfold C24 at hD
  refine ax_Wp.go (f' := (1424, [some (.retAddr 0), some (.ref 0), some (.ref 130), some (.ref 138), some (.int i), none, none, none, none], [.int (i + (nI 1)), .retAddr 0, .ref 0])) 5 rfl ?_
  refine ax_Wp.rdX hD rfl (fun x1 hD => ?_)
  refine ax_Wp.go (f' := (1426, [some (.retAddr 0), some (.ref 0), some (.ref 130), some (.ref 138), some (.int i), none, none, none, none], [.ref 138, .int x1, .ref 0])) 1 rfl ?_
  refine bnd hD (fun r2 hx hD => ?_)
  refine ax_Wp.callE (f' := (1429, [some (.retAddr 0), some (.ref 0), some (.ref 130), some (.ref 138), some (.int i), none, none, none, none], [])) rfl rfl (w_263 (d := d + 3) hx) rfl ?_
  refine ax_Wp.go (f' := (1437, [some (.retAddr 0), some (.ref 0), some (.ref 130), some (.ref 138), some (.int i), some (.int r2.1), none, none, none], [.int (i + (nI 1)), .retAddr 0, .ref 130])) 6 rfl ?_
  refine ax_Wp.rdX hD rfl (fun x3 hD => ?_)
  refine bnd hD (fun r4 hx hD => ?_)
  refine ax_Wp.callE (f' := (1441, [some (.retAddr 0), some (.ref 0), some (.ref 130), some (.ref 138), some (.int i), some (.int r2.1), none, none, none], [])) rfl rfl (w_207 (d := d + 7) hx) rfl ?_
  refine ax_Wp.go (f' := (1444, [some (.retAddr 0), some (.ref 0), some (.ref 130), some (.ref 138), some (.int i), some (.int r2.1), some (.int r4.1), none, none], [.ref 130])) 2 rfl ?_
  refine bnd hD (fun x5 hx hD => ?_)
  refine ax_Wp.callE (f' := (1447, [some (.retAddr 0), some (.ref 0), some (.ref 130), some (.ref 138), some (.int i), some (.int r2.1), some (.int r4.1), none, none], [])) rfl rfl (w_142 (d := d + 10) hx) rfl ?_
  refine ax_Wp.go (f' := (1449, [some (.retAddr 0), some (.ref 0), some (.ref 130), some (.ref 138), some (.int i), some (.int r2.1), some (.int r4.1), none, none], [.int r2.1, .int x5])) 1 rfl ?_
  refine ax_Wp.brD hD rfl (fun _ hD => ?_) (fun _ hD => ?_)
  · refine ax_Wp.go (f' := (1456, [some (.retAddr 0), some (.ref 0), some (.ref 130), some (.ref 138), some (.int i), some (.int r2.1), some (.int r4.1), none, none], [.int r2.1])) 1 rfl ?_
    refine ax_Wp.brD hD rfl (fun _ hD => ?_) (fun _ hD => ?_)
    · refine ax_Wp.go (f' := (1461, [some (.retAddr 0), some (.ref 0), some (.ref 130), some (.ref 138), some (.int i), some (.int r2.1), some (.int r4.1), none, none], [.int (nI 0), .ref 138])) 2 rfl ?_
      refine ax_Wp.rdL hD rfl rfl rfl (fun x6 hD => ?_)
      refine ax_Wp.go (f' := (1466, [some (.retAddr 0), some (.ref 0), some (.ref 130), some (.ref 138), some (.int i), some (.int r2.1), some (.int r4.1), none, none], [.int (lg_cmp x6 r4.1.toInt64)])) 3 rfl ?_
      refine ax_Wp.brD hD rfl (fun _ hD => ?_) (fun _ hD => ?_)
      · refine ax_Wp.go (f' := (2778, [some (.retAddr 0), some (.ref 0), some (.ref 130), some (.ref 138), some (.int i), some (.int r2.1), some (.int r4.1), none, none], [])) 1 rfl ?_
        obtain rfl := inj hD
        exact ax_Wp.dead kk ⟨.inl rfl, ⟨.inl rfl, ⟨.inl rfl, ⟨.inl rfl, ⟨.inl rfl, ⟨.inr ⟨rfl, trivial⟩, ⟨.inr ⟨rfl, trivial⟩, ⟨.inl rfl, ⟨.inl rfl, trivial⟩⟩⟩⟩⟩⟩⟩⟩⟩
      · refine ax_Wp.go (f' := (1470, [some (.retAddr 0), some (.ref 0), some (.ref 130), some (.ref 138), some (.int i), some (.int r2.1), some (.int r4.1), none, none], [.int (nI 0)])) 1 rfl ?_
        obtain rfl := inj hD
        exact ax_Wp.ret rfl kk
    · refine ax_Wp.go (f' := (2778, [some (.retAddr 0), some (.ref 0), some (.ref 130), some (.ref 138), some (.int i), some (.int r2.1), some (.int r4.1), none, none], [])) 1 rfl ?_
      obtain rfl := inj hD
      exact ax_Wp.dead kk ⟨.inl rfl, ⟨.inl rfl, ⟨.inl rfl, ⟨.inl rfl, ⟨.inl rfl, ⟨.inr ⟨rfl, trivial⟩, ⟨.inr ⟨rfl, trivial⟩, ⟨.inl rfl, ⟨.inl rfl, trivial⟩⟩⟩⟩⟩⟩⟩⟩⟩
  · refine ax_Wp.go (f' := (1453, [some (.retAddr 0), some (.ref 0), some (.ref 130), some (.ref 138), some (.int i), some (.int r2.1), some (.int r4.1), none, none], [.int (nI 0)])) 1 rfl ?_
    obtain rfl := inj hD
    exact ax_Wp.ret rfl kk
def C25 (X : Nat × (Nat → Int32)) (m : dM) (i : Int32) : Option (dM ⊕ dM) := (gX X (i + (nI 1))).bind fun (x1 : Int32) => (D264 m x1).bind fun (r2 : Int32 × dM) => (gX X (i + (nI 1))).bind fun (x3 : Int32) => (D208 r2.2 x3).bind fun (r4 : Int32 × dM) => (D142 r4.2).bind fun (x5 : Int32) => if x5 = r2.1 then if r2.1 = (nI 0) then (gL r4.2 138 1 (nI 0)).bind fun (x6 : Int64) => Option.bind ((if r4.1 = (nI 0) then some (0 : Int64) else some (1 : Int64)) : Option (Int64)) fun (v7 : Int64) => if (lg_cmp x6 v7) = (nI 0) then some (.inl r4.2) else some (.inr r4.2) else some (.inl r4.2) else some (.inr r4.2)
set_option maxRecDepth 20000 in
theorem c_25 {X : Nat × (Nat → Int32)} {d : Nat} {Q : ax_O → ax_H → Prop} {m : dM} {i : Int32} {v : dM ⊕ dM} (hD : C25 X m i = some v) (kk : lwK X d Q i v) : ax_Wp X (d + 11 + 1) 283 (1474, [some (.retAddr 0), some (.ref 0), some (.ref 130), some (.ref 138), some (.int i), none, none, none, none], []) (stt m) Q := by
  unfold C25 at hD
  refine ax_Wp.go (f' := (1480, [some (.retAddr 0), some (.ref 0), some (.ref 130), some (.ref 138), some (.int i), none, none, none, none], [.int (i + (nI 1)), .retAddr 0, .ref 0])) 5 rfl ?_
  refine ax_Wp.rdX hD rfl (fun x1 hD => ?_)
  refine ax_Wp.go (f' := (1482, [some (.retAddr 0), some (.ref 0), some (.ref 130), some (.ref 138), some (.int i), none, none, none, none], [.ref 138, .int x1, .ref 0])) 1 rfl ?_
  refine bnd hD (fun r2 hx hD => ?_)
  refine ax_Wp.callE (f' := (1485, [some (.retAddr 0), some (.ref 0), some (.ref 130), some (.ref 138), some (.int i), none, none, none, none], [])) rfl rfl (w_264 (d := d + 3) hx) rfl ?_
  refine ax_Wp.go (f' := (1493, [some (.retAddr 0), some (.ref 0), some (.ref 130), some (.ref 138), some (.int i), some (.int r2.1), none, none, none], [.int (i + (nI 1)), .retAddr 0, .ref 130])) 6 rfl ?_
  refine ax_Wp.rdX hD rfl (fun x3 hD => ?_)
  refine bnd hD (fun r4 hx hD => ?_)
  refine ax_Wp.callE (f' := (1497, [some (.retAddr 0), some (.ref 0), some (.ref 130), some (.ref 138), some (.int i), some (.int r2.1), none, none, none], [])) rfl rfl (w_208 (d := d + 7) hx) rfl ?_
  refine ax_Wp.go (f' := (1500, [some (.retAddr 0), some (.ref 0), some (.ref 130), some (.ref 138), some (.int i), some (.int r2.1), some (.int r4.1), none, none], [.ref 130])) 2 rfl ?_
  refine bnd hD (fun x5 hx hD => ?_)
  refine ax_Wp.callE (f' := (1503, [some (.retAddr 0), some (.ref 0), some (.ref 130), some (.ref 138), some (.int i), some (.int r2.1), some (.int r4.1), none, none], [])) rfl rfl (w_142 (d := d + 10) hx) rfl ?_
  refine ax_Wp.go (f' := (1505, [some (.retAddr 0), some (.ref 0), some (.ref 130), some (.ref 138), some (.int i), some (.int r2.1), some (.int r4.1), none, none], [.int r2.1, .int x5])) 1 rfl ?_
  refine ax_Wp.brD hD rfl (fun _ hD => ?_) (fun _ hD => ?_)
  · refine ax_Wp.go (f' := (1512, [some (.retAddr 0), some (.ref 0), some (.ref 130), some (.ref 138), some (.int i), some (.int r2.1), some (.int r4.1), none, none], [.int r2.1])) 1 rfl ?_
    refine ax_Wp.brD hD rfl (fun _ hD => ?_) (fun _ hD => ?_)
    · refine ax_Wp.go (f' := (1517, [some (.retAddr 0), some (.ref 0), some (.ref 130), some (.ref 138), some (.int i), some (.int r2.1), some (.int r4.1), none, none], [.int (nI 0), .ref 138])) 2 rfl ?_
      refine ax_Wp.rdL hD rfl rfl rfl (fun x6 hD => ?_)
      refine ax_Wp.go (f' := (1520, [some (.retAddr 0), some (.ref 0), some (.ref 130), some (.ref 138), some (.int i), some (.int r2.1), some (.int r4.1), none, none], [.int r4.1, .long x6])) 1 rfl ?_
      refine bnd hD (fun v7 hx hD => ?_)
      refine ax_Wp.jn (F := (1528, [some (.retAddr 0), some (.ref 0), some (.ref 130), some (.ref 138), some (.int i), none, none, none, none], [.long v7, .long x6])) (hh := stt r4.2) ?_ (fun kkv7 => ?_)
      · refine ax_Wp.go (f' := (1529, [some (.retAddr 0), some (.ref 0), some (.ref 130), some (.ref 138), some (.int i), none, none, none, none], [.int (lg_cmp x6 v7)])) 1 rfl ?_
        refine ax_Wp.brD hD rfl (fun _ hD => ?_) (fun _ hD => ?_)
        · refine ax_Wp.go (f' := (2778, [some (.retAddr 0), some (.ref 0), some (.ref 130), some (.ref 138), some (.int i), none, none, none, none], [])) 1 rfl ?_
          obtain rfl := inj hD
          exact kk
        · refine ax_Wp.go (f' := (1533, [some (.retAddr 0), some (.ref 0), some (.ref 130), some (.ref 138), some (.int i), none, none, none, none], [.int (nI 0)])) 1 rfl ?_
          obtain rfl := inj hD
          exact ax_Wp.ret rfl kk
      clear hD
      have hD := hx
      clear hx
      refine ax_Wp.brD hD rfl (fun _ hD => ?_) (fun _ hD => ?_)
      · refine ax_Wp.go (f' := (1528, [some (.retAddr 0), some (.ref 0), some (.ref 130), some (.ref 138), some (.int i), some (.int r2.1), some (.int r4.1), none, none], [.long (0 : Int64), .long x6])) 1 rfl ?_
        obtain rfl := inj hD
        exact ax_Wp.dead kkv7 ⟨.inl rfl, ⟨.inl rfl, ⟨.inl rfl, ⟨.inl rfl, ⟨.inl rfl, ⟨.inr ⟨rfl, trivial⟩, ⟨.inr ⟨rfl, trivial⟩, ⟨.inl rfl, ⟨.inl rfl, trivial⟩⟩⟩⟩⟩⟩⟩⟩⟩
      · refine ax_Wp.go (f' := (1528, [some (.retAddr 0), some (.ref 0), some (.ref 130), some (.ref 138), some (.int i), some (.int r2.1), some (.int r4.1), none, none], [.long (1 : Int64), .long x6])) 2 rfl ?_
        obtain rfl := inj hD
        exact ax_Wp.dead kkv7 ⟨.inl rfl, ⟨.inl rfl, ⟨.inl rfl, ⟨.inl rfl, ⟨.inl rfl, ⟨.inr ⟨rfl, trivial⟩, ⟨.inr ⟨rfl, trivial⟩, ⟨.inl rfl, ⟨.inl rfl, trivial⟩⟩⟩⟩⟩⟩⟩⟩⟩
    · refine ax_Wp.go (f' := (2778, [some (.retAddr 0), some (.ref 0), some (.ref 130), some (.ref 138), some (.int i), some (.int r2.1), some (.int r4.1), none, none], [])) 1 rfl ?_
      obtain rfl := inj hD
      exact ax_Wp.dead kk ⟨.inl rfl, ⟨.inl rfl, ⟨.inl rfl, ⟨.inl rfl, ⟨.inl rfl, ⟨.inr ⟨rfl, trivial⟩, ⟨.inr ⟨rfl, trivial⟩, ⟨.inl rfl, ⟨.inl rfl, trivial⟩⟩⟩⟩⟩⟩⟩⟩⟩
  · refine ax_Wp.go (f' := (1509, [some (.retAddr 0), some (.ref 0), some (.ref 130), some (.ref 138), some (.int i), some (.int r2.1), some (.int r4.1), none, none], [.int (nI 0)])) 1 rfl ?_
    obtain rfl := inj hD
    exact ax_Wp.ret rfl kk
def C26 (X : Nat × (Nat → Int32)) (m : dM) (i : Int32) : Option (dM ⊕ dM) := (gX X (i + (nI 1))).bind fun (x1 : Int32) => (D265 m x1).bind fun (r2 : Int32 × dM) => (gX X (i + (nI 1))).bind fun (x3 : Int32) => (D209 r2.2 x3).bind fun (r4 : Int32 × dM) => (D142 r4.2).bind fun (x5 : Int32) => if x5 = r2.1 then if r2.1 = (nI 0) then (gL r4.2 138 1 (nI 0)).bind fun (x6 : Int64) => if (lg_cmp x6 r4.1.toInt64) = (nI 0) then some (.inl r4.2) else some (.inr r4.2) else some (.inl r4.2) else some (.inr r4.2)
set_option maxRecDepth 20000 in
theorem c_26 {X : Nat × (Nat → Int32)} {d : Nat} {Q : ax_O → ax_H → Prop} {m : dM} {i : Int32} {v : dM ⊕ dM} (hD : C26 X m i = some v) (kk : lwK X d Q i v) : ax_Wp X (d + 11 + 1) 283 (1537, [some (.retAddr 0), some (.ref 0), some (.ref 130), some (.ref 138), some (.int i), none, none, none, none], []) (stt m) Q := by
  unfold C26 at hD
  refine ax_Wp.go (f' := (1543, [some (.retAddr 0), some (.ref 0), some (.ref 130), some (.ref 138), some (.int i), none, none, none, none], [.int (i + (nI 1)), .retAddr 0, .ref 0])) 5 rfl ?_
  refine ax_Wp.rdX hD rfl (fun x1 hD => ?_)
  refine ax_Wp.go (f' := (1545, [some (.retAddr 0), some (.ref 0), some (.ref 130), some (.ref 138), some (.int i), none, none, none, none], [.ref 138, .int x1, .ref 0])) 1 rfl ?_
  refine bnd hD (fun r2 hx hD => ?_)
  refine ax_Wp.callE (f' := (1548, [some (.retAddr 0), some (.ref 0), some (.ref 130), some (.ref 138), some (.int i), none, none, none, none], [])) rfl rfl (w_265 (d := d + 3) hx) rfl ?_
  refine ax_Wp.go (f' := (1556, [some (.retAddr 0), some (.ref 0), some (.ref 130), some (.ref 138), some (.int i), some (.int r2.1), none, none, none], [.int (i + (nI 1)), .retAddr 0, .ref 130])) 6 rfl ?_
  refine ax_Wp.rdX hD rfl (fun x3 hD => ?_)
  refine bnd hD (fun r4 hx hD => ?_)
  refine ax_Wp.callE (f' := (1560, [some (.retAddr 0), some (.ref 0), some (.ref 130), some (.ref 138), some (.int i), some (.int r2.1), none, none, none], [])) rfl rfl (w_209 (d := d + 8) hx) rfl ?_
  refine ax_Wp.go (f' := (1563, [some (.retAddr 0), some (.ref 0), some (.ref 130), some (.ref 138), some (.int i), some (.int r2.1), some (.int r4.1), none, none], [.ref 130])) 2 rfl ?_
  refine bnd hD (fun x5 hx hD => ?_)
  refine ax_Wp.callE (f' := (1566, [some (.retAddr 0), some (.ref 0), some (.ref 130), some (.ref 138), some (.int i), some (.int r2.1), some (.int r4.1), none, none], [])) rfl rfl (w_142 (d := d + 10) hx) rfl ?_
  refine ax_Wp.go (f' := (1568, [some (.retAddr 0), some (.ref 0), some (.ref 130), some (.ref 138), some (.int i), some (.int r2.1), some (.int r4.1), none, none], [.int r2.1, .int x5])) 1 rfl ?_
  refine ax_Wp.brD hD rfl (fun _ hD => ?_) (fun _ hD => ?_)
  · refine ax_Wp.go (f' := (1575, [some (.retAddr 0), some (.ref 0), some (.ref 130), some (.ref 138), some (.int i), some (.int r2.1), some (.int r4.1), none, none], [.int r2.1])) 1 rfl ?_
    refine ax_Wp.brD hD rfl (fun _ hD => ?_) (fun _ hD => ?_)
    · refine ax_Wp.go (f' := (1580, [some (.retAddr 0), some (.ref 0), some (.ref 130), some (.ref 138), some (.int i), some (.int r2.1), some (.int r4.1), none, none], [.int (nI 0), .ref 138])) 2 rfl ?_
      refine ax_Wp.rdL hD rfl rfl rfl (fun x6 hD => ?_)
      refine ax_Wp.go (f' := (1585, [some (.retAddr 0), some (.ref 0), some (.ref 130), some (.ref 138), some (.int i), some (.int r2.1), some (.int r4.1), none, none], [.int (lg_cmp x6 r4.1.toInt64)])) 3 rfl ?_
      refine ax_Wp.brD hD rfl (fun _ hD => ?_) (fun _ hD => ?_)
      · refine ax_Wp.go (f' := (2778, [some (.retAddr 0), some (.ref 0), some (.ref 130), some (.ref 138), some (.int i), some (.int r2.1), some (.int r4.1), none, none], [])) 1 rfl ?_
        obtain rfl := inj hD
        exact ax_Wp.dead kk ⟨.inl rfl, ⟨.inl rfl, ⟨.inl rfl, ⟨.inl rfl, ⟨.inl rfl, ⟨.inr ⟨rfl, trivial⟩, ⟨.inr ⟨rfl, trivial⟩, ⟨.inl rfl, ⟨.inl rfl, trivial⟩⟩⟩⟩⟩⟩⟩⟩⟩
      · refine ax_Wp.go (f' := (1589, [some (.retAddr 0), some (.ref 0), some (.ref 130), some (.ref 138), some (.int i), some (.int r2.1), some (.int r4.1), none, none], [.int (nI 0)])) 1 rfl ?_
        obtain rfl := inj hD
        exact ax_Wp.ret rfl kk
    · refine ax_Wp.go (f' := (2778, [some (.retAddr 0), some (.ref 0), some (.ref 130), some (.ref 138), some (.int i), some (.int r2.1), some (.int r4.1), none, none], [])) 1 rfl ?_
      obtain rfl := inj hD
      exact ax_Wp.dead kk ⟨.inl rfl, ⟨.inl rfl, ⟨.inl rfl, ⟨.inl rfl, ⟨.inl rfl, ⟨.inr ⟨rfl, trivial⟩, ⟨.inr ⟨rfl, trivial⟩, ⟨.inl rfl, ⟨.inl rfl, trivial⟩⟩⟩⟩⟩⟩⟩⟩⟩
  · refine ax_Wp.go (f' := (1572, [some (.retAddr 0), some (.ref 0), some (.ref 130), some (.ref 138), some (.int i), some (.int r2.1), some (.int r4.1), none, none], [.int (nI 0)])) 1 rfl ?_
    obtain rfl := inj hD
    exact ax_Wp.ret rfl kk
def C27 (X : Nat × (Nat → Int32)) (m : dM) (i : Int32) : Option (dM ⊕ dM) := (gX X (i + (nI 1))).bind fun (x1 : Int32) => (D266 m x1).bind fun (r2 : Int32 × dM) => (gX X (i + (nI 1))).bind fun (x3 : Int32) => (D210 r2.2 x3).bind fun (r4 : Int32 × dM) => (D142 r4.2).bind fun (x5 : Int32) => if x5 = r2.1 then if r2.1 = (nI 0) then (gL r4.2 138 1 (nI 0)).bind fun (x6 : Int64) => Option.bind ((if r4.1 = (nI 0) then some (0 : Int64) else some (1 : Int64)) : Option (Int64)) fun (v7 : Int64) => if (lg_cmp x6 v7) = (nI 0) then some (.inl r4.2) else some (.inr r4.2) else some (.inl r4.2) else some (.inr r4.2)
set_option maxRecDepth 20000 in
theorem c_27 {X : Nat × (Nat → Int32)} {d : Nat} {Q : ax_O → ax_H → Prop} {m : dM} {i : Int32} {v : dM ⊕ dM} (hD : C27 X m i = some v) (kk : lwK X d Q i v) : ax_Wp X (d + 11 + 1) 283 (1593, [some (.retAddr 0), some (.ref 0), some (.ref 130), some (.ref 138), some (.int i), none, none, none, none], []) (stt m) Q := by
  unfold C27 at hD
  refine ax_Wp.go (f' := (1599, [some (.retAddr 0), some (.ref 0), some (.ref 130), some (.ref 138), some (.int i), none, none, none, none], [.int (i + (nI 1)), .retAddr 0, .ref 0])) 5 rfl ?_
  refine ax_Wp.rdX hD rfl (fun x1 hD => ?_)
  refine ax_Wp.go (f' := (1601, [some (.retAddr 0), some (.ref 0), some (.ref 130), some (.ref 138), some (.int i), none, none, none, none], [.ref 138, .int x1, .ref 0])) 1 rfl ?_
  refine bnd hD (fun r2 hx hD => ?_)
  refine ax_Wp.callE (f' := (1604, [some (.retAddr 0), some (.ref 0), some (.ref 130), some (.ref 138), some (.int i), none, none, none, none], [])) rfl rfl (w_266 (d := d + 3) hx) rfl ?_
  refine ax_Wp.go (f' := (1612, [some (.retAddr 0), some (.ref 0), some (.ref 130), some (.ref 138), some (.int i), some (.int r2.1), none, none, none], [.int (i + (nI 1)), .retAddr 0, .ref 130])) 6 rfl ?_
  refine ax_Wp.rdX hD rfl (fun x3 hD => ?_)
  refine bnd hD (fun r4 hx hD => ?_)
  refine ax_Wp.callE (f' := (1616, [some (.retAddr 0), some (.ref 0), some (.ref 130), some (.ref 138), some (.int i), some (.int r2.1), none, none, none], [])) rfl rfl (w_210 (d := d + 7) hx) rfl ?_
  refine ax_Wp.go (f' := (1619, [some (.retAddr 0), some (.ref 0), some (.ref 130), some (.ref 138), some (.int i), some (.int r2.1), some (.int r4.1), none, none], [.ref 130])) 2 rfl ?_
  refine bnd hD (fun x5 hx hD => ?_)
  refine ax_Wp.callE (f' := (1622, [some (.retAddr 0), some (.ref 0), some (.ref 130), some (.ref 138), some (.int i), some (.int r2.1), some (.int r4.1), none, none], [])) rfl rfl (w_142 (d := d + 10) hx) rfl ?_
  refine ax_Wp.go (f' := (1624, [some (.retAddr 0), some (.ref 0), some (.ref 130), some (.ref 138), some (.int i), some (.int r2.1), some (.int r4.1), none, none], [.int r2.1, .int x5])) 1 rfl ?_
  refine ax_Wp.brD hD rfl (fun _ hD => ?_) (fun _ hD => ?_)
  · refine ax_Wp.go (f' := (1631, [some (.retAddr 0), some (.ref 0), some (.ref 130), some (.ref 138), some (.int i), some (.int r2.1), some (.int r4.1), none, none], [.int r2.1])) 1 rfl ?_
    refine ax_Wp.brD hD rfl (fun _ hD => ?_) (fun _ hD => ?_)
    · refine ax_Wp.go (f' := (1636, [some (.retAddr 0), some (.ref 0), some (.ref 130), some (.ref 138), some (.int i), some (.int r2.1), some (.int r4.1), none, none], [.int (nI 0), .ref 138])) 2 rfl ?_
      refine ax_Wp.rdL hD rfl rfl rfl (fun x6 hD => ?_)
      refine ax_Wp.go (f' := (1639, [some (.retAddr 0), some (.ref 0), some (.ref 130), some (.ref 138), some (.int i), some (.int r2.1), some (.int r4.1), none, none], [.int r4.1, .long x6])) 1 rfl ?_
      refine bnd hD (fun v7 hx hD => ?_)
      refine ax_Wp.jn (F := (1647, [some (.retAddr 0), some (.ref 0), some (.ref 130), some (.ref 138), some (.int i), none, none, none, none], [.long v7, .long x6])) (hh := stt r4.2) ?_ (fun kkv7 => ?_)
      · refine ax_Wp.go (f' := (1648, [some (.retAddr 0), some (.ref 0), some (.ref 130), some (.ref 138), some (.int i), none, none, none, none], [.int (lg_cmp x6 v7)])) 1 rfl ?_
        refine ax_Wp.brD hD rfl (fun _ hD => ?_) (fun _ hD => ?_)
        · refine ax_Wp.go (f' := (2778, [some (.retAddr 0), some (.ref 0), some (.ref 130), some (.ref 138), some (.int i), none, none, none, none], [])) 1 rfl ?_
          obtain rfl := inj hD
          exact kk
        · refine ax_Wp.go (f' := (1652, [some (.retAddr 0), some (.ref 0), some (.ref 130), some (.ref 138), some (.int i), none, none, none, none], [.int (nI 0)])) 1 rfl ?_
          obtain rfl := inj hD
          exact ax_Wp.ret rfl kk
      clear hD
      have hD := hx
      clear hx
      refine ax_Wp.brD hD rfl (fun _ hD => ?_) (fun _ hD => ?_)
      · refine ax_Wp.go (f' := (1647, [some (.retAddr 0), some (.ref 0), some (.ref 130), some (.ref 138), some (.int i), some (.int r2.1), some (.int r4.1), none, none], [.long (0 : Int64), .long x6])) 1 rfl ?_
        obtain rfl := inj hD
        exact ax_Wp.dead kkv7 ⟨.inl rfl, ⟨.inl rfl, ⟨.inl rfl, ⟨.inl rfl, ⟨.inl rfl, ⟨.inr ⟨rfl, trivial⟩, ⟨.inr ⟨rfl, trivial⟩, ⟨.inl rfl, ⟨.inl rfl, trivial⟩⟩⟩⟩⟩⟩⟩⟩⟩
      · refine ax_Wp.go (f' := (1647, [some (.retAddr 0), some (.ref 0), some (.ref 130), some (.ref 138), some (.int i), some (.int r2.1), some (.int r4.1), none, none], [.long (1 : Int64), .long x6])) 2 rfl ?_
        obtain rfl := inj hD
        exact ax_Wp.dead kkv7 ⟨.inl rfl, ⟨.inl rfl, ⟨.inl rfl, ⟨.inl rfl, ⟨.inl rfl, ⟨.inr ⟨rfl, trivial⟩, ⟨.inr ⟨rfl, trivial⟩, ⟨.inl rfl, ⟨.inl rfl, trivial⟩⟩⟩⟩⟩⟩⟩⟩⟩
    · refine ax_Wp.go (f' := (2778, [some (.retAddr 0), some (.ref 0), some (.ref 130), some (.ref 138), some (.int i), some (.int r2.1), some (.int r4.1), none, none], [])) 1 rfl ?_
      obtain rfl := inj hD
      exact ax_Wp.dead kk ⟨.inl rfl, ⟨.inl rfl, ⟨.inl rfl, ⟨.inl rfl, ⟨.inl rfl, ⟨.inr ⟨rfl, trivial⟩, ⟨.inr ⟨rfl, trivial⟩, ⟨.inl rfl, ⟨.inl rfl, trivial⟩⟩⟩⟩⟩⟩⟩⟩⟩
  · refine ax_Wp.go (f' := (1628, [some (.retAddr 0), some (.ref 0), some (.ref 130), some (.ref 138), some (.int i), some (.int r2.1), some (.int r4.1), none, none], [.int (nI 0)])) 1 rfl ?_
    obtain rfl := inj hD
    exact ax_Wp.ret rfl kk
