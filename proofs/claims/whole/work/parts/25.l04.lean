/-! THE LAW'S CASES: 4 -/
def C44 (X : Nat × (Nat → Int32)) (m : dM) (i : Int32) : Option (dM ⊕ dM) := (gX X (i + (nI 1))).bind fun (x1 : Int32) => (D277 m x1).bind fun (r2 : Int32 × dM) => (gX X (i + (nI 1))).bind fun (x3 : Int32) => (D230 r2.2 x3).bind fun (r4 : Int32 × dM) => (D142 r4.2).bind fun (x5 : Int32) => if x5 = r2.1 then if r2.1 = (nI 0) then (gL r4.2 138 1 (nI 0)).bind fun (x6 : Int64) => if (lg_cmp x6 r4.1.toInt64) = (nI 0) then some (.inl r4.2) else some (.inr r4.2) else some (.inl r4.2) else some (.inr r4.2)
set_option maxRecDepth 20000 in
theorem c_44 {X : Nat × (Nat → Int32)} {d : Nat} {Q : ax_O → ax_H → Prop} {m : dM} {i : Int32} {v : dM ⊕ dM} (hD : C44 X m i = some v) (kk : lwK X d Q i v) : ax_Wp X (d + 11 + 1) 283 (2308, [some (.retAddr 0), some (.ref 0), some (.ref 130), some (.ref 138), some (.int i), none, none, none, none], []) (stt m) Q := by
  unfold C44 at hD
  refine ax_Wp.go (f' := (2314, [some (.retAddr 0), some (.ref 0), some (.ref 130), some (.ref 138), some (.int i), none, none, none, none], [.int (i + (nI 1)), .retAddr 0, .ref 0])) 5 rfl ?_
  refine ax_Wp.rdX hD rfl (fun x1 hD => ?_)
  refine ax_Wp.go (f' := (2316, [some (.retAddr 0), some (.ref 0), some (.ref 130), some (.ref 138), some (.int i), none, none, none, none], [.ref 138, .int x1, .ref 0])) 1 rfl ?_
  refine bnd hD (fun r2 hx hD => ?_)
  refine ax_Wp.callE (f' := (2319, [some (.retAddr 0), some (.ref 0), some (.ref 130), some (.ref 138), some (.int i), none, none, none, none], [])) rfl rfl (w_277 (d := d + 3) hx) rfl ?_
  refine ax_Wp.go (f' := (2327, [some (.retAddr 0), some (.ref 0), some (.ref 130), some (.ref 138), some (.int i), some (.int r2.1), none, none, none], [.int (i + (nI 1)), .retAddr 0, .ref 130])) 6 rfl ?_
  refine ax_Wp.rdX hD rfl (fun x3 hD => ?_)
  refine bnd hD (fun r4 hx hD => ?_)
  refine ax_Wp.callE (f' := (2331, [some (.retAddr 0), some (.ref 0), some (.ref 130), some (.ref 138), some (.int i), some (.int r2.1), none, none, none], [])) rfl rfl (w_230 (d := d + 7) hx) rfl ?_
  refine ax_Wp.go (f' := (2334, [some (.retAddr 0), some (.ref 0), some (.ref 130), some (.ref 138), some (.int i), some (.int r2.1), some (.int r4.1), none, none], [.ref 130])) 2 rfl ?_
  refine bnd hD (fun x5 hx hD => ?_)
  refine ax_Wp.callE (f' := (2337, [some (.retAddr 0), some (.ref 0), some (.ref 130), some (.ref 138), some (.int i), some (.int r2.1), some (.int r4.1), none, none], [])) rfl rfl (w_142 (d := d + 10) hx) rfl ?_
  refine ax_Wp.go (f' := (2339, [some (.retAddr 0), some (.ref 0), some (.ref 130), some (.ref 138), some (.int i), some (.int r2.1), some (.int r4.1), none, none], [.int r2.1, .int x5])) 1 rfl ?_
  refine ax_Wp.brD hD rfl (fun _ hD => ?_) (fun _ hD => ?_)
  · refine ax_Wp.go (f' := (2346, [some (.retAddr 0), some (.ref 0), some (.ref 130), some (.ref 138), some (.int i), some (.int r2.1), some (.int r4.1), none, none], [.int r2.1])) 1 rfl ?_
    refine ax_Wp.brD hD rfl (fun _ hD => ?_) (fun _ hD => ?_)
    · refine ax_Wp.go (f' := (2351, [some (.retAddr 0), some (.ref 0), some (.ref 130), some (.ref 138), some (.int i), some (.int r2.1), some (.int r4.1), none, none], [.int (nI 0), .ref 138])) 2 rfl ?_
      refine ax_Wp.rdL hD rfl rfl rfl (fun x6 hD => ?_)
      refine ax_Wp.go (f' := (2356, [some (.retAddr 0), some (.ref 0), some (.ref 130), some (.ref 138), some (.int i), some (.int r2.1), some (.int r4.1), none, none], [.int (lg_cmp x6 r4.1.toInt64)])) 3 rfl ?_
      refine ax_Wp.brD hD rfl (fun _ hD => ?_) (fun _ hD => ?_)
      · refine ax_Wp.go (f' := (2778, [some (.retAddr 0), some (.ref 0), some (.ref 130), some (.ref 138), some (.int i), some (.int r2.1), some (.int r4.1), none, none], [])) 1 rfl ?_
        obtain rfl := inj hD
        exact ax_Wp.dead kk ⟨.inl rfl, ⟨.inl rfl, ⟨.inl rfl, ⟨.inl rfl, ⟨.inl rfl, ⟨.inr ⟨rfl, trivial⟩, ⟨.inr ⟨rfl, trivial⟩, ⟨.inl rfl, ⟨.inl rfl, trivial⟩⟩⟩⟩⟩⟩⟩⟩⟩
      · refine ax_Wp.go (f' := (2360, [some (.retAddr 0), some (.ref 0), some (.ref 130), some (.ref 138), some (.int i), some (.int r2.1), some (.int r4.1), none, none], [.int (nI 0)])) 1 rfl ?_
        obtain rfl := inj hD
        exact ax_Wp.ret rfl kk
    · refine ax_Wp.go (f' := (2778, [some (.retAddr 0), some (.ref 0), some (.ref 130), some (.ref 138), some (.int i), some (.int r2.1), some (.int r4.1), none, none], [])) 1 rfl ?_
      obtain rfl := inj hD
      exact ax_Wp.dead kk ⟨.inl rfl, ⟨.inl rfl, ⟨.inl rfl, ⟨.inl rfl, ⟨.inl rfl, ⟨.inr ⟨rfl, trivial⟩, ⟨.inr ⟨rfl, trivial⟩, ⟨.inl rfl, ⟨.inl rfl, trivial⟩⟩⟩⟩⟩⟩⟩⟩⟩
  · refine ax_Wp.go (f' := (2343, [some (.retAddr 0), some (.ref 0), some (.ref 130), some (.ref 138), some (.int i), some (.int r2.1), some (.int r4.1), none, none], [.int (nI 0)])) 1 rfl ?_
    obtain rfl := inj hD
    exact ax_Wp.ret rfl kk
def C45 (X : Nat × (Nat → Int32)) (m : dM) (i : Int32) : Option (dM ⊕ dM) := (gX X (i + (nI 1))).bind fun (x1 : Int32) => (gX X (i + (nI 2))).bind fun (x2 : Int32) => (D278 m x1 x2).bind fun (r3 : Int32 × dM) => (gX X (i + (nI 1))).bind fun (x4 : Int32) => (gX X (i + (nI 2))).bind fun (x5 : Int32) => (D232 r3.2 x4 x5).bind fun (r6 : Int32 × dM) => (D142 r6.2).bind fun (x7 : Int32) => if x7 = r3.1 then if r3.1 = (nI 0) then (gL r6.2 138 1 (nI 0)).bind fun (x8 : Int64) => if (lg_cmp x8 r6.1.toInt64) = (nI 0) then some (.inl r6.2) else some (.inr r6.2) else some (.inl r6.2) else some (.inr r6.2)
set_option maxRecDepth 20000 in
theorem c_45 {X : Nat × (Nat → Int32)} {d : Nat} {Q : ax_O → ax_H → Prop} {m : dM} {i : Int32} {v : dM ⊕ dM} (hD : C45 X m i = some v) (kk : lwK X d Q i v) : ax_Wp X (d + 11 + 1) 283 (2364, [some (.retAddr 0), some (.ref 0), some (.ref 130), some (.ref 138), some (.int i), none, none, none, none], []) (stt m) Q := by
  unfold C45 at hD
  refine ax_Wp.go (f' := (2370, [some (.retAddr 0), some (.ref 0), some (.ref 130), some (.ref 138), some (.int i), none, none, none, none], [.int (i + (nI 1)), .retAddr 0, .ref 0])) 5 rfl ?_
  refine ax_Wp.rdX hD rfl (fun x1 hD => ?_)
  refine ax_Wp.go (f' := (2376, [some (.retAddr 0), some (.ref 0), some (.ref 130), some (.ref 138), some (.int i), none, none, none, none], [.int (i + (nI 2)), .retAddr 0, .int x1, .ref 0])) 4 rfl ?_
  refine ax_Wp.rdX hD rfl (fun x2 hD => ?_)
  refine ax_Wp.go (f' := (2378, [some (.retAddr 0), some (.ref 0), some (.ref 130), some (.ref 138), some (.int i), none, none, none, none], [.ref 138, .int x2, .int x1, .ref 0])) 1 rfl ?_
  refine bnd hD (fun r3 hx hD => ?_)
  refine ax_Wp.callE (f' := (2381, [some (.retAddr 0), some (.ref 0), some (.ref 130), some (.ref 138), some (.int i), none, none, none, none], [])) rfl rfl (w_278 (d := d + 3) hx) rfl ?_
  refine ax_Wp.go (f' := (2389, [some (.retAddr 0), some (.ref 0), some (.ref 130), some (.ref 138), some (.int i), some (.int r3.1), none, none, none], [.int (i + (nI 1)), .retAddr 0, .ref 130])) 6 rfl ?_
  refine ax_Wp.rdX hD rfl (fun x4 hD => ?_)
  refine ax_Wp.go (f' := (2395, [some (.retAddr 0), some (.ref 0), some (.ref 130), some (.ref 138), some (.int i), some (.int r3.1), none, none, none], [.int (i + (nI 2)), .retAddr 0, .int x4, .ref 130])) 4 rfl ?_
  refine ax_Wp.rdX hD rfl (fun x5 hD => ?_)
  refine bnd hD (fun r6 hx hD => ?_)
  refine ax_Wp.callE (f' := (2399, [some (.retAddr 0), some (.ref 0), some (.ref 130), some (.ref 138), some (.int i), some (.int r3.1), none, none, none], [])) rfl rfl (w_232 (d := d + 7) hx) rfl ?_
  refine ax_Wp.go (f' := (2402, [some (.retAddr 0), some (.ref 0), some (.ref 130), some (.ref 138), some (.int i), some (.int r3.1), some (.int r6.1), none, none], [.ref 130])) 2 rfl ?_
  refine bnd hD (fun x7 hx hD => ?_)
  refine ax_Wp.callE (f' := (2405, [some (.retAddr 0), some (.ref 0), some (.ref 130), some (.ref 138), some (.int i), some (.int r3.1), some (.int r6.1), none, none], [])) rfl rfl (w_142 (d := d + 10) hx) rfl ?_
  refine ax_Wp.go (f' := (2407, [some (.retAddr 0), some (.ref 0), some (.ref 130), some (.ref 138), some (.int i), some (.int r3.1), some (.int r6.1), none, none], [.int r3.1, .int x7])) 1 rfl ?_
  refine ax_Wp.brD hD rfl (fun _ hD => ?_) (fun _ hD => ?_)
  · refine ax_Wp.go (f' := (2414, [some (.retAddr 0), some (.ref 0), some (.ref 130), some (.ref 138), some (.int i), some (.int r3.1), some (.int r6.1), none, none], [.int r3.1])) 1 rfl ?_
    refine ax_Wp.brD hD rfl (fun _ hD => ?_) (fun _ hD => ?_)
    · refine ax_Wp.go (f' := (2419, [some (.retAddr 0), some (.ref 0), some (.ref 130), some (.ref 138), some (.int i), some (.int r3.1), some (.int r6.1), none, none], [.int (nI 0), .ref 138])) 2 rfl ?_
      refine ax_Wp.rdL hD rfl rfl rfl (fun x8 hD => ?_)
      refine ax_Wp.go (f' := (2424, [some (.retAddr 0), some (.ref 0), some (.ref 130), some (.ref 138), some (.int i), some (.int r3.1), some (.int r6.1), none, none], [.int (lg_cmp x8 r6.1.toInt64)])) 3 rfl ?_
      refine ax_Wp.brD hD rfl (fun _ hD => ?_) (fun _ hD => ?_)
      · refine ax_Wp.go (f' := (2778, [some (.retAddr 0), some (.ref 0), some (.ref 130), some (.ref 138), some (.int i), some (.int r3.1), some (.int r6.1), none, none], [])) 1 rfl ?_
        obtain rfl := inj hD
        exact ax_Wp.dead kk ⟨.inl rfl, ⟨.inl rfl, ⟨.inl rfl, ⟨.inl rfl, ⟨.inl rfl, ⟨.inr ⟨rfl, trivial⟩, ⟨.inr ⟨rfl, trivial⟩, ⟨.inl rfl, ⟨.inl rfl, trivial⟩⟩⟩⟩⟩⟩⟩⟩⟩
      · refine ax_Wp.go (f' := (2428, [some (.retAddr 0), some (.ref 0), some (.ref 130), some (.ref 138), some (.int i), some (.int r3.1), some (.int r6.1), none, none], [.int (nI 0)])) 1 rfl ?_
        obtain rfl := inj hD
        exact ax_Wp.ret rfl kk
    · refine ax_Wp.go (f' := (2778, [some (.retAddr 0), some (.ref 0), some (.ref 130), some (.ref 138), some (.int i), some (.int r3.1), some (.int r6.1), none, none], [])) 1 rfl ?_
      obtain rfl := inj hD
      exact ax_Wp.dead kk ⟨.inl rfl, ⟨.inl rfl, ⟨.inl rfl, ⟨.inl rfl, ⟨.inl rfl, ⟨.inr ⟨rfl, trivial⟩, ⟨.inr ⟨rfl, trivial⟩, ⟨.inl rfl, ⟨.inl rfl, trivial⟩⟩⟩⟩⟩⟩⟩⟩⟩
  · refine ax_Wp.go (f' := (2411, [some (.retAddr 0), some (.ref 0), some (.ref 130), some (.ref 138), some (.int i), some (.int r3.1), some (.int r6.1), none, none], [.int (nI 0)])) 1 rfl ?_
    obtain rfl := inj hD
    exact ax_Wp.ret rfl kk
def C46 (X : Nat × (Nat → Int32)) (m : dM) (i : Int32) : Option (dM ⊕ dM) := (gX X (i + (nI 1))).bind fun (x1 : Int32) => (gX X (i + (nI 2))).bind fun (x2 : Int32) => (D279 m x1 x2).bind fun (r3 : Int32 × dM) => (gX X (i + (nI 1))).bind fun (x4 : Int32) => (gX X (i + (nI 2))).bind fun (x5 : Int32) => (D233 r3.2 x4 x5).bind fun (r6 : Int32 × dM) => (D142 r6.2).bind fun (x7 : Int32) => if x7 = r3.1 then if r3.1 = (nI 0) then (gL r6.2 138 1 (nI 0)).bind fun (x8 : Int64) => if (lg_cmp x8 r6.1.toInt64) = (nI 0) then some (.inl r6.2) else some (.inr r6.2) else some (.inl r6.2) else some (.inr r6.2)
set_option maxRecDepth 20000 in
theorem c_46 {X : Nat × (Nat → Int32)} {d : Nat} {Q : ax_O → ax_H → Prop} {m : dM} {i : Int32} {v : dM ⊕ dM} (hD : C46 X m i = some v) (kk : lwK X d Q i v) : ax_Wp X (d + 11 + 1) 283 (2432, [some (.retAddr 0), some (.ref 0), some (.ref 130), some (.ref 138), some (.int i), none, none, none, none], []) (stt m) Q := by
  unfold C46 at hD
  refine ax_Wp.go (f' := (2438, [some (.retAddr 0), some (.ref 0), some (.ref 130), some (.ref 138), some (.int i), none, none, none, none], [.int (i + (nI 1)), .retAddr 0, .ref 0])) 5 rfl ?_
  refine ax_Wp.rdX hD rfl (fun x1 hD => ?_)
  refine ax_Wp.go (f' := (2444, [some (.retAddr 0), some (.ref 0), some (.ref 130), some (.ref 138), some (.int i), none, none, none, none], [.int (i + (nI 2)), .retAddr 0, .int x1, .ref 0])) 4 rfl ?_
  refine ax_Wp.rdX hD rfl (fun x2 hD => ?_)
  refine ax_Wp.go (f' := (2446, [some (.retAddr 0), some (.ref 0), some (.ref 130), some (.ref 138), some (.int i), none, none, none, none], [.ref 138, .int x2, .int x1, .ref 0])) 1 rfl ?_
  refine bnd hD (fun r3 hx hD => ?_)
  refine ax_Wp.callE (f' := (2449, [some (.retAddr 0), some (.ref 0), some (.ref 130), some (.ref 138), some (.int i), none, none, none, none], [])) rfl rfl (w_279 (d := d + 3) hx) rfl ?_
  refine ax_Wp.go (f' := (2457, [some (.retAddr 0), some (.ref 0), some (.ref 130), some (.ref 138), some (.int i), some (.int r3.1), none, none, none], [.int (i + (nI 1)), .retAddr 0, .ref 130])) 6 rfl ?_
  refine ax_Wp.rdX hD rfl (fun x4 hD => ?_)
  refine ax_Wp.go (f' := (2463, [some (.retAddr 0), some (.ref 0), some (.ref 130), some (.ref 138), some (.int i), some (.int r3.1), none, none, none], [.int (i + (nI 2)), .retAddr 0, .int x4, .ref 130])) 4 rfl ?_
  refine ax_Wp.rdX hD rfl (fun x5 hD => ?_)
  refine bnd hD (fun r6 hx hD => ?_)
  refine ax_Wp.callE (f' := (2467, [some (.retAddr 0), some (.ref 0), some (.ref 130), some (.ref 138), some (.int i), some (.int r3.1), none, none, none], [])) rfl rfl (w_233 (d := d + 7) hx) rfl ?_
  refine ax_Wp.go (f' := (2470, [some (.retAddr 0), some (.ref 0), some (.ref 130), some (.ref 138), some (.int i), some (.int r3.1), some (.int r6.1), none, none], [.ref 130])) 2 rfl ?_
  refine bnd hD (fun x7 hx hD => ?_)
  refine ax_Wp.callE (f' := (2473, [some (.retAddr 0), some (.ref 0), some (.ref 130), some (.ref 138), some (.int i), some (.int r3.1), some (.int r6.1), none, none], [])) rfl rfl (w_142 (d := d + 10) hx) rfl ?_
  refine ax_Wp.go (f' := (2475, [some (.retAddr 0), some (.ref 0), some (.ref 130), some (.ref 138), some (.int i), some (.int r3.1), some (.int r6.1), none, none], [.int r3.1, .int x7])) 1 rfl ?_
  refine ax_Wp.brD hD rfl (fun _ hD => ?_) (fun _ hD => ?_)
  · refine ax_Wp.go (f' := (2482, [some (.retAddr 0), some (.ref 0), some (.ref 130), some (.ref 138), some (.int i), some (.int r3.1), some (.int r6.1), none, none], [.int r3.1])) 1 rfl ?_
    refine ax_Wp.brD hD rfl (fun _ hD => ?_) (fun _ hD => ?_)
    · refine ax_Wp.go (f' := (2487, [some (.retAddr 0), some (.ref 0), some (.ref 130), some (.ref 138), some (.int i), some (.int r3.1), some (.int r6.1), none, none], [.int (nI 0), .ref 138])) 2 rfl ?_
      refine ax_Wp.rdL hD rfl rfl rfl (fun x8 hD => ?_)
      refine ax_Wp.go (f' := (2492, [some (.retAddr 0), some (.ref 0), some (.ref 130), some (.ref 138), some (.int i), some (.int r3.1), some (.int r6.1), none, none], [.int (lg_cmp x8 r6.1.toInt64)])) 3 rfl ?_
      refine ax_Wp.brD hD rfl (fun _ hD => ?_) (fun _ hD => ?_)
      · refine ax_Wp.go (f' := (2778, [some (.retAddr 0), some (.ref 0), some (.ref 130), some (.ref 138), some (.int i), some (.int r3.1), some (.int r6.1), none, none], [])) 1 rfl ?_
        obtain rfl := inj hD
        exact ax_Wp.dead kk ⟨.inl rfl, ⟨.inl rfl, ⟨.inl rfl, ⟨.inl rfl, ⟨.inl rfl, ⟨.inr ⟨rfl, trivial⟩, ⟨.inr ⟨rfl, trivial⟩, ⟨.inl rfl, ⟨.inl rfl, trivial⟩⟩⟩⟩⟩⟩⟩⟩⟩
      · refine ax_Wp.go (f' := (2496, [some (.retAddr 0), some (.ref 0), some (.ref 130), some (.ref 138), some (.int i), some (.int r3.1), some (.int r6.1), none, none], [.int (nI 0)])) 1 rfl ?_
        obtain rfl := inj hD
        exact ax_Wp.ret rfl kk
    · refine ax_Wp.go (f' := (2778, [some (.retAddr 0), some (.ref 0), some (.ref 130), some (.ref 138), some (.int i), some (.int r3.1), some (.int r6.1), none, none], [])) 1 rfl ?_
      obtain rfl := inj hD
      exact ax_Wp.dead kk ⟨.inl rfl, ⟨.inl rfl, ⟨.inl rfl, ⟨.inl rfl, ⟨.inl rfl, ⟨.inr ⟨rfl, trivial⟩, ⟨.inr ⟨rfl, trivial⟩, ⟨.inl rfl, ⟨.inl rfl, trivial⟩⟩⟩⟩⟩⟩⟩⟩⟩
  · refine ax_Wp.go (f' := (2479, [some (.retAddr 0), some (.ref 0), some (.ref 130), some (.ref 138), some (.int i), some (.int r3.1), some (.int r6.1), none, none], [.int (nI 0)])) 1 rfl ?_
    obtain rfl := inj hD
    exact ax_Wp.ret rfl kk
def C47 (X : Nat × (Nat → Int32)) (m : dM) (i : Int32) : Option (dM ⊕ dM) := (gX X (i + (nI 1))).bind fun (x1 : Int32) => (D280 m x1).bind fun (r2 : Int32 × dM) => (gX X (i + (nI 1))).bind fun (x3 : Int32) => (D234 r2.2 x3).bind fun (r4 : Int32 × dM) => (D142 r4.2).bind fun (x5 : Int32) => if x5 = r2.1 then if r2.1 = (nI 0) then (gL r4.2 138 1 (nI 0)).bind fun (x6 : Int64) => if (lg_cmp x6 r4.1.toInt64) = (nI 0) then some (.inl r4.2) else some (.inr r4.2) else some (.inl r4.2) else some (.inr r4.2)
set_option maxRecDepth 20000 in
theorem c_47 {X : Nat × (Nat → Int32)} {d : Nat} {Q : ax_O → ax_H → Prop} {m : dM} {i : Int32} {v : dM ⊕ dM} (hD : C47 X m i = some v) (kk : lwK X d Q i v) : ax_Wp X (d + 11 + 1) 283 (2500, [some (.retAddr 0), some (.ref 0), some (.ref 130), some (.ref 138), some (.int i), none, none, none, none], []) (stt m) Q := by
  unfold C47 at hD
  refine ax_Wp.go (f' := (2506, [some (.retAddr 0), some (.ref 0), some (.ref 130), some (.ref 138), some (.int i), none, none, none, none], [.int (i + (nI 1)), .retAddr 0, .ref 0])) 5 rfl ?_
  refine ax_Wp.rdX hD rfl (fun x1 hD => ?_)
  refine ax_Wp.go (f' := (2508, [some (.retAddr 0), some (.ref 0), some (.ref 130), some (.ref 138), some (.int i), none, none, none, none], [.ref 138, .int x1, .ref 0])) 1 rfl ?_
  refine bnd hD (fun r2 hx hD => ?_)
  refine ax_Wp.callE (f' := (2511, [some (.retAddr 0), some (.ref 0), some (.ref 130), some (.ref 138), some (.int i), none, none, none, none], [])) rfl rfl (w_280 (d := d + 3) hx) rfl ?_
  refine ax_Wp.go (f' := (2519, [some (.retAddr 0), some (.ref 0), some (.ref 130), some (.ref 138), some (.int i), some (.int r2.1), none, none, none], [.int (i + (nI 1)), .retAddr 0, .ref 130])) 6 rfl ?_
  refine ax_Wp.rdX hD rfl (fun x3 hD => ?_)
  refine bnd hD (fun r4 hx hD => ?_)
  refine ax_Wp.callE (f' := (2523, [some (.retAddr 0), some (.ref 0), some (.ref 130), some (.ref 138), some (.int i), some (.int r2.1), none, none, none], [])) rfl rfl (w_234 (d := d + 7) hx) rfl ?_
  refine ax_Wp.go (f' := (2526, [some (.retAddr 0), some (.ref 0), some (.ref 130), some (.ref 138), some (.int i), some (.int r2.1), some (.int r4.1), none, none], [.ref 130])) 2 rfl ?_
  refine bnd hD (fun x5 hx hD => ?_)
  refine ax_Wp.callE (f' := (2529, [some (.retAddr 0), some (.ref 0), some (.ref 130), some (.ref 138), some (.int i), some (.int r2.1), some (.int r4.1), none, none], [])) rfl rfl (w_142 (d := d + 10) hx) rfl ?_
  refine ax_Wp.go (f' := (2531, [some (.retAddr 0), some (.ref 0), some (.ref 130), some (.ref 138), some (.int i), some (.int r2.1), some (.int r4.1), none, none], [.int r2.1, .int x5])) 1 rfl ?_
  refine ax_Wp.brD hD rfl (fun _ hD => ?_) (fun _ hD => ?_)
  · refine ax_Wp.go (f' := (2538, [some (.retAddr 0), some (.ref 0), some (.ref 130), some (.ref 138), some (.int i), some (.int r2.1), some (.int r4.1), none, none], [.int r2.1])) 1 rfl ?_
    refine ax_Wp.brD hD rfl (fun _ hD => ?_) (fun _ hD => ?_)
    · refine ax_Wp.go (f' := (2543, [some (.retAddr 0), some (.ref 0), some (.ref 130), some (.ref 138), some (.int i), some (.int r2.1), some (.int r4.1), none, none], [.int (nI 0), .ref 138])) 2 rfl ?_
      refine ax_Wp.rdL hD rfl rfl rfl (fun x6 hD => ?_)
      refine ax_Wp.go (f' := (2548, [some (.retAddr 0), some (.ref 0), some (.ref 130), some (.ref 138), some (.int i), some (.int r2.1), some (.int r4.1), none, none], [.int (lg_cmp x6 r4.1.toInt64)])) 3 rfl ?_
      refine ax_Wp.brD hD rfl (fun _ hD => ?_) (fun _ hD => ?_)
      · refine ax_Wp.go (f' := (2778, [some (.retAddr 0), some (.ref 0), some (.ref 130), some (.ref 138), some (.int i), some (.int r2.1), some (.int r4.1), none, none], [])) 1 rfl ?_
        obtain rfl := inj hD
        exact ax_Wp.dead kk ⟨.inl rfl, ⟨.inl rfl, ⟨.inl rfl, ⟨.inl rfl, ⟨.inl rfl, ⟨.inr ⟨rfl, trivial⟩, ⟨.inr ⟨rfl, trivial⟩, ⟨.inl rfl, ⟨.inl rfl, trivial⟩⟩⟩⟩⟩⟩⟩⟩⟩
      · refine ax_Wp.go (f' := (2552, [some (.retAddr 0), some (.ref 0), some (.ref 130), some (.ref 138), some (.int i), some (.int r2.1), some (.int r4.1), none, none], [.int (nI 0)])) 1 rfl ?_
        obtain rfl := inj hD
        exact ax_Wp.ret rfl kk
    · refine ax_Wp.go (f' := (2778, [some (.retAddr 0), some (.ref 0), some (.ref 130), some (.ref 138), some (.int i), some (.int r2.1), some (.int r4.1), none, none], [])) 1 rfl ?_
      obtain rfl := inj hD
      exact ax_Wp.dead kk ⟨.inl rfl, ⟨.inl rfl, ⟨.inl rfl, ⟨.inl rfl, ⟨.inl rfl, ⟨.inr ⟨rfl, trivial⟩, ⟨.inr ⟨rfl, trivial⟩, ⟨.inl rfl, ⟨.inl rfl, trivial⟩⟩⟩⟩⟩⟩⟩⟩⟩
  · refine ax_Wp.go (f' := (2535, [some (.retAddr 0), some (.ref 0), some (.ref 130), some (.ref 138), some (.int i), some (.int r2.1), some (.int r4.1), none, none], [.int (nI 0)])) 1 rfl ?_
    obtain rfl := inj hD
    exact ax_Wp.ret rfl kk
def C48 (X : Nat × (Nat → Int32)) (m : dM) (i : Int32) : Option (dM ⊕ dM) := (gX X (i + (nI 1))).bind fun (x1 : Int32) => (gX X (i + (nI 2))).bind fun (x2 : Int32) => (D281 m x1 x2).bind fun (r3 : Int32 × dM) => (gX X (i + (nI 1))).bind fun (x4 : Int32) => (gX X (i + (nI 2))).bind fun (x5 : Int32) => (D235 r3.2 x4 x5).bind fun (r6 : Int32 × dM) => (D142 r6.2).bind fun (x7 : Int32) => if x7 = r3.1 then if r3.1 = (nI 0) then (gL r6.2 138 1 (nI 0)).bind fun (x8 : Int64) => if (lg_cmp x8 r6.1.toInt64) = (nI 0) then some (.inl r6.2) else some (.inr r6.2) else some (.inl r6.2) else some (.inr r6.2)
set_option maxRecDepth 20000 in
theorem c_48 {X : Nat × (Nat → Int32)} {d : Nat} {Q : ax_O → ax_H → Prop} {m : dM} {i : Int32} {v : dM ⊕ dM} (hD : C48 X m i = some v) (kk : lwK X d Q i v) : ax_Wp X (d + 11 + 1) 283 (2556, [some (.retAddr 0), some (.ref 0), some (.ref 130), some (.ref 138), some (.int i), none, none, none, none], []) (stt m) Q := by
  unfold C48 at hD
  refine ax_Wp.go (f' := (2562, [some (.retAddr 0), some (.ref 0), some (.ref 130), some (.ref 138), some (.int i), none, none, none, none], [.int (i + (nI 1)), .retAddr 0, .ref 0])) 5 rfl ?_
  refine ax_Wp.rdX hD rfl (fun x1 hD => ?_)
  refine ax_Wp.go (f' := (2568, [some (.retAddr 0), some (.ref 0), some (.ref 130), some (.ref 138), some (.int i), none, none, none, none], [.int (i + (nI 2)), .retAddr 0, .int x1, .ref 0])) 4 rfl ?_
  refine ax_Wp.rdX hD rfl (fun x2 hD => ?_)
  refine ax_Wp.go (f' := (2570, [some (.retAddr 0), some (.ref 0), some (.ref 130), some (.ref 138), some (.int i), none, none, none, none], [.ref 138, .int x2, .int x1, .ref 0])) 1 rfl ?_
  refine bnd hD (fun r3 hx hD => ?_)
  refine ax_Wp.callE (f' := (2573, [some (.retAddr 0), some (.ref 0), some (.ref 130), some (.ref 138), some (.int i), none, none, none, none], [])) rfl rfl (w_281 (d := d + 3) hx) rfl ?_
  refine ax_Wp.go (f' := (2581, [some (.retAddr 0), some (.ref 0), some (.ref 130), some (.ref 138), some (.int i), some (.int r3.1), none, none, none], [.int (i + (nI 1)), .retAddr 0, .ref 130])) 6 rfl ?_
  refine ax_Wp.rdX hD rfl (fun x4 hD => ?_)
  refine ax_Wp.go (f' := (2587, [some (.retAddr 0), some (.ref 0), some (.ref 130), some (.ref 138), some (.int i), some (.int r3.1), none, none, none], [.int (i + (nI 2)), .retAddr 0, .int x4, .ref 130])) 4 rfl ?_
  refine ax_Wp.rdX hD rfl (fun x5 hD => ?_)
  refine bnd hD (fun r6 hx hD => ?_)
  refine ax_Wp.callE (f' := (2591, [some (.retAddr 0), some (.ref 0), some (.ref 130), some (.ref 138), some (.int i), some (.int r3.1), none, none, none], [])) rfl rfl (w_235 (d := d + 5) hx) rfl ?_
  refine ax_Wp.go (f' := (2594, [some (.retAddr 0), some (.ref 0), some (.ref 130), some (.ref 138), some (.int i), some (.int r3.1), some (.int r6.1), none, none], [.ref 130])) 2 rfl ?_
  refine bnd hD (fun x7 hx hD => ?_)
  refine ax_Wp.callE (f' := (2597, [some (.retAddr 0), some (.ref 0), some (.ref 130), some (.ref 138), some (.int i), some (.int r3.1), some (.int r6.1), none, none], [])) rfl rfl (w_142 (d := d + 10) hx) rfl ?_
  refine ax_Wp.go (f' := (2599, [some (.retAddr 0), some (.ref 0), some (.ref 130), some (.ref 138), some (.int i), some (.int r3.1), some (.int r6.1), none, none], [.int r3.1, .int x7])) 1 rfl ?_
  refine ax_Wp.brD hD rfl (fun _ hD => ?_) (fun _ hD => ?_)
  · refine ax_Wp.go (f' := (2606, [some (.retAddr 0), some (.ref 0), some (.ref 130), some (.ref 138), some (.int i), some (.int r3.1), some (.int r6.1), none, none], [.int r3.1])) 1 rfl ?_
    refine ax_Wp.brD hD rfl (fun _ hD => ?_) (fun _ hD => ?_)
    · refine ax_Wp.go (f' := (2611, [some (.retAddr 0), some (.ref 0), some (.ref 130), some (.ref 138), some (.int i), some (.int r3.1), some (.int r6.1), none, none], [.int (nI 0), .ref 138])) 2 rfl ?_
      refine ax_Wp.rdL hD rfl rfl rfl (fun x8 hD => ?_)
      refine ax_Wp.go (f' := (2616, [some (.retAddr 0), some (.ref 0), some (.ref 130), some (.ref 138), some (.int i), some (.int r3.1), some (.int r6.1), none, none], [.int (lg_cmp x8 r6.1.toInt64)])) 3 rfl ?_
      refine ax_Wp.brD hD rfl (fun _ hD => ?_) (fun _ hD => ?_)
      · refine ax_Wp.go (f' := (2778, [some (.retAddr 0), some (.ref 0), some (.ref 130), some (.ref 138), some (.int i), some (.int r3.1), some (.int r6.1), none, none], [])) 1 rfl ?_
        obtain rfl := inj hD
        exact ax_Wp.dead kk ⟨.inl rfl, ⟨.inl rfl, ⟨.inl rfl, ⟨.inl rfl, ⟨.inl rfl, ⟨.inr ⟨rfl, trivial⟩, ⟨.inr ⟨rfl, trivial⟩, ⟨.inl rfl, ⟨.inl rfl, trivial⟩⟩⟩⟩⟩⟩⟩⟩⟩
      · refine ax_Wp.go (f' := (2620, [some (.retAddr 0), some (.ref 0), some (.ref 130), some (.ref 138), some (.int i), some (.int r3.1), some (.int r6.1), none, none], [.int (nI 0)])) 1 rfl ?_
        obtain rfl := inj hD
        exact ax_Wp.ret rfl kk
    · refine ax_Wp.go (f' := (2778, [some (.retAddr 0), some (.ref 0), some (.ref 130), some (.ref 138), some (.int i), some (.int r3.1), some (.int r6.1), none, none], [])) 1 rfl ?_
      obtain rfl := inj hD
      exact ax_Wp.dead kk ⟨.inl rfl, ⟨.inl rfl, ⟨.inl rfl, ⟨.inl rfl, ⟨.inl rfl, ⟨.inr ⟨rfl, trivial⟩, ⟨.inr ⟨rfl, trivial⟩, ⟨.inl rfl, ⟨.inl rfl, trivial⟩⟩⟩⟩⟩⟩⟩⟩⟩
  · refine ax_Wp.go (f' := (2603, [some (.retAddr 0), some (.ref 0), some (.ref 130), some (.ref 138), some (.int i), some (.int r3.1), some (.int r6.1), none, none], [.int (nI 0)])) 1 rfl ?_
    obtain rfl := inj hD
    exact ax_Wp.ret rfl kk
def C49 (X : Nat × (Nat → Int32)) (m : dM) (i : Int32) : Option (dM ⊕ dM) := (gX X (i + (nI 1))).bind fun (x1 : Int32) => (D282 m x1).bind fun (r2 : Int32 × dM) => (gX X (i + (nI 1))).bind fun (x3 : Int32) => (D236 r2.2 x3).bind fun (r4 : Int32 × dM) => (D142 r4.2).bind fun (x5 : Int32) => if x5 = r2.1 then if r2.1 = (nI 0) then (gL r4.2 138 1 (nI 0)).bind fun (x6 : Int64) => if (lg_cmp x6 r4.1.toInt64) = (nI 0) then some (.inl r4.2) else some (.inr r4.2) else some (.inl r4.2) else some (.inr r4.2)
set_option maxRecDepth 20000 in
theorem c_49 {X : Nat × (Nat → Int32)} {d : Nat} {Q : ax_O → ax_H → Prop} {m : dM} {i : Int32} {v : dM ⊕ dM} (hD : C49 X m i = some v) (kk : lwK X d Q i v) : ax_Wp X (d + 11 + 1) 283 (2624, [some (.retAddr 0), some (.ref 0), some (.ref 130), some (.ref 138), some (.int i), none, none, none, none], []) (stt m) Q := by
  unfold C49 at hD
  refine ax_Wp.go (f' := (2630, [some (.retAddr 0), some (.ref 0), some (.ref 130), some (.ref 138), some (.int i), none, none, none, none], [.int (i + (nI 1)), .retAddr 0, .ref 0])) 5 rfl ?_
  refine ax_Wp.rdX hD rfl (fun x1 hD => ?_)
  refine ax_Wp.go (f' := (2632, [some (.retAddr 0), some (.ref 0), some (.ref 130), some (.ref 138), some (.int i), none, none, none, none], [.ref 138, .int x1, .ref 0])) 1 rfl ?_
  refine bnd hD (fun r2 hx hD => ?_)
  refine ax_Wp.callE (f' := (2635, [some (.retAddr 0), some (.ref 0), some (.ref 130), some (.ref 138), some (.int i), none, none, none, none], [])) rfl rfl (w_282 (d := d + 3) hx) rfl ?_
  refine ax_Wp.go (f' := (2643, [some (.retAddr 0), some (.ref 0), some (.ref 130), some (.ref 138), some (.int i), some (.int r2.1), none, none, none], [.int (i + (nI 1)), .retAddr 0, .ref 130])) 6 rfl ?_
  refine ax_Wp.rdX hD rfl (fun x3 hD => ?_)
  refine bnd hD (fun r4 hx hD => ?_)
  refine ax_Wp.callE (f' := (2647, [some (.retAddr 0), some (.ref 0), some (.ref 130), some (.ref 138), some (.int i), some (.int r2.1), none, none, none], [])) rfl rfl (w_236 (d := d + 6) hx) rfl ?_
  refine ax_Wp.go (f' := (2650, [some (.retAddr 0), some (.ref 0), some (.ref 130), some (.ref 138), some (.int i), some (.int r2.1), some (.int r4.1), none, none], [.ref 130])) 2 rfl ?_
  refine bnd hD (fun x5 hx hD => ?_)
  refine ax_Wp.callE (f' := (2653, [some (.retAddr 0), some (.ref 0), some (.ref 130), some (.ref 138), some (.int i), some (.int r2.1), some (.int r4.1), none, none], [])) rfl rfl (w_142 (d := d + 10) hx) rfl ?_
  refine ax_Wp.go (f' := (2655, [some (.retAddr 0), some (.ref 0), some (.ref 130), some (.ref 138), some (.int i), some (.int r2.1), some (.int r4.1), none, none], [.int r2.1, .int x5])) 1 rfl ?_
  refine ax_Wp.brD hD rfl (fun _ hD => ?_) (fun _ hD => ?_)
  · refine ax_Wp.go (f' := (2662, [some (.retAddr 0), some (.ref 0), some (.ref 130), some (.ref 138), some (.int i), some (.int r2.1), some (.int r4.1), none, none], [.int r2.1])) 1 rfl ?_
    refine ax_Wp.brD hD rfl (fun _ hD => ?_) (fun _ hD => ?_)
    · refine ax_Wp.go (f' := (2667, [some (.retAddr 0), some (.ref 0), some (.ref 130), some (.ref 138), some (.int i), some (.int r2.1), some (.int r4.1), none, none], [.int (nI 0), .ref 138])) 2 rfl ?_
      refine ax_Wp.rdL hD rfl rfl rfl (fun x6 hD => ?_)
      refine ax_Wp.go (f' := (2672, [some (.retAddr 0), some (.ref 0), some (.ref 130), some (.ref 138), some (.int i), some (.int r2.1), some (.int r4.1), none, none], [.int (lg_cmp x6 r4.1.toInt64)])) 3 rfl ?_
      refine ax_Wp.brD hD rfl (fun _ hD => ?_) (fun _ hD => ?_)
      · refine ax_Wp.go (f' := (2778, [some (.retAddr 0), some (.ref 0), some (.ref 130), some (.ref 138), some (.int i), some (.int r2.1), some (.int r4.1), none, none], [])) 1 rfl ?_
        obtain rfl := inj hD
        exact ax_Wp.dead kk ⟨.inl rfl, ⟨.inl rfl, ⟨.inl rfl, ⟨.inl rfl, ⟨.inl rfl, ⟨.inr ⟨rfl, trivial⟩, ⟨.inr ⟨rfl, trivial⟩, ⟨.inl rfl, ⟨.inl rfl, trivial⟩⟩⟩⟩⟩⟩⟩⟩⟩
      · refine ax_Wp.go (f' := (2676, [some (.retAddr 0), some (.ref 0), some (.ref 130), some (.ref 138), some (.int i), some (.int r2.1), some (.int r4.1), none, none], [.int (nI 0)])) 1 rfl ?_
        obtain rfl := inj hD
        exact ax_Wp.ret rfl kk
    · refine ax_Wp.go (f' := (2778, [some (.retAddr 0), some (.ref 0), some (.ref 130), some (.ref 138), some (.int i), some (.int r2.1), some (.int r4.1), none, none], [])) 1 rfl ?_
      obtain rfl := inj hD
      exact ax_Wp.dead kk ⟨.inl rfl, ⟨.inl rfl, ⟨.inl rfl, ⟨.inl rfl, ⟨.inl rfl, ⟨.inr ⟨rfl, trivial⟩, ⟨.inr ⟨rfl, trivial⟩, ⟨.inl rfl, ⟨.inl rfl, trivial⟩⟩⟩⟩⟩⟩⟩⟩⟩
  · refine ax_Wp.go (f' := (2659, [some (.retAddr 0), some (.ref 0), some (.ref 130), some (.ref 138), some (.int i), some (.int r2.1), some (.int r4.1), none, none], [.int (nI 0)])) 1 rfl ?_
    obtain rfl := inj hD
    exact ax_Wp.ret rfl kk
def C50 (X : Nat × (Nat → Int32)) (m : dM) (i : Int32) : Option (dM ⊕ dM) := (D120 m).bind fun (x1 : UInt32) => (gD (FP.f2d x1)).bind fun (x2 : UInt64) => (D239 m).bind fun (r3 : UInt32 × dM) => (gD (FP.f2d r3.1)).bind fun (x4 : UInt64) => if (Op.cmpValue (FP.dcmp x2 x4) .l) = (nI 0) then some (.inl r3.2) else if (Op.cmpValue (FP.dcmp x2 x2) .l) = (nI 0) then some (.inr r3.2) else if (Op.cmpValue (FP.dcmp x4 x4) .l) = (nI 0) then some (.inr r3.2) else some (.inl r3.2)
set_option maxRecDepth 20000 in
theorem c_50 {X : Nat × (Nat → Int32)} {d : Nat} {Q : ax_O → ax_H → Prop} {m : dM} {i : Int32} {v : dM ⊕ dM} (hD : C50 X m i = some v) (kk : lwK X d Q i v) : ax_Wp X (d + 11 + 1) 283 (2680, [some (.retAddr 0), some (.ref 0), some (.ref 130), some (.ref 138), some (.int i), none, none, none, none], []) (stt m) Q := by
  unfold C50 at hD
  refine ax_Wp.go (f' := (2681, [some (.retAddr 0), some (.ref 0), some (.ref 130), some (.ref 138), some (.int i), none, none, none, none], [.ref 0])) 1 rfl ?_
  refine bnd hD (fun x1 hx hD => ?_)
  refine ax_Wp.callE (f' := (2684, [some (.retAddr 0), some (.ref 0), some (.ref 130), some (.ref 138), some (.int i), none, none, none, none], [])) rfl rfl (w_120 (d := d + 9) hx) rfl ?_
  refine ax_Wp.flD hD rfl (fun x2 hD => ?_)
  refine ax_Wp.go (f' := (2688, [some (.retAddr 0), some (.ref 0), some (.ref 130), some (.ref 138), some (.int i), some (.double x2), none, none, none], [.ref 130])) 2 rfl ?_
  refine bnd hD (fun r3 hx hD => ?_)
  refine ax_Wp.callE (f' := (2691, [some (.retAddr 0), some (.ref 0), some (.ref 130), some (.ref 138), some (.int i), some (.double x2), none, none, none], [])) rfl rfl (w_239 (d := d + 7) hx) rfl ?_
  refine ax_Wp.flD hD rfl (fun x4 hD => ?_)
  refine ax_Wp.go (f' := (2699, [some (.retAddr 0), some (.ref 0), some (.ref 130), some (.ref 138), some (.int i), some (.double x2), none, some (.double x4), none], [.int (Op.cmpValue (FP.dcmp x2 x4) .l)])) 4 rfl ?_
  refine ax_Wp.brD hD rfl (fun _ hD => ?_) (fun _ hD => ?_)
  · refine ax_Wp.go (f' := (2778, [some (.retAddr 0), some (.ref 0), some (.ref 130), some (.ref 138), some (.int i), some (.double x2), none, some (.double x4), none], [])) 1 rfl ?_
    obtain rfl := inj hD
    exact ax_Wp.dead kk ⟨.inl rfl, ⟨.inl rfl, ⟨.inl rfl, ⟨.inl rfl, ⟨.inl rfl, ⟨.inr ⟨rfl, trivial⟩, ⟨.inl rfl, ⟨.inr ⟨rfl, trivial⟩, ⟨.inl rfl, trivial⟩⟩⟩⟩⟩⟩⟩⟩⟩
  · refine ax_Wp.go (f' := (2707, [some (.retAddr 0), some (.ref 0), some (.ref 130), some (.ref 138), some (.int i), some (.double x2), none, some (.double x4), none], [.int (Op.cmpValue (FP.dcmp x2 x2) .l)])) 3 rfl ?_
    refine ax_Wp.brD hD rfl (fun _ hD => ?_) (fun _ hD => ?_)
    · refine ax_Wp.go (f' := (2719, [some (.retAddr 0), some (.ref 0), some (.ref 130), some (.ref 138), some (.int i), some (.double x2), none, some (.double x4), none], [.int (nI 0)])) 1 rfl ?_
      obtain rfl := inj hD
      exact ax_Wp.ret rfl kk
    · refine ax_Wp.go (f' := (2715, [some (.retAddr 0), some (.ref 0), some (.ref 130), some (.ref 138), some (.int i), some (.double x2), none, some (.double x4), none], [.int (Op.cmpValue (FP.dcmp x4 x4) .l)])) 3 rfl ?_
      refine ax_Wp.brD hD rfl (fun _ hD => ?_) (fun _ hD => ?_)
      · refine ax_Wp.go (f' := (2719, [some (.retAddr 0), some (.ref 0), some (.ref 130), some (.ref 138), some (.int i), some (.double x2), none, some (.double x4), none], [.int (nI 0)])) 1 rfl ?_
        obtain rfl := inj hD
        exact ax_Wp.ret rfl kk
      · refine ax_Wp.go (f' := (2778, [some (.retAddr 0), some (.ref 0), some (.ref 130), some (.ref 138), some (.int i), some (.double x2), none, some (.double x4), none], [])) 1 rfl ?_
        obtain rfl := inj hD
        exact ax_Wp.dead kk ⟨.inl rfl, ⟨.inl rfl, ⟨.inl rfl, ⟨.inl rfl, ⟨.inl rfl, ⟨.inr ⟨rfl, trivial⟩, ⟨.inl rfl, ⟨.inr ⟨rfl, trivial⟩, ⟨.inl rfl, trivial⟩⟩⟩⟩⟩⟩⟩⟩⟩
def C51 (X : Nat × (Nat → Int32)) (m : dM) (i : Int32) : Option (dM ⊕ dM) := (D121 m).bind fun (x1 : UInt64) => (D240 m).bind fun (r2 : UInt64 × dM) => if (Op.cmpValue (FP.dcmp x1 r2.1) .l) = (nI 0) then some (.inl r2.2) else if (Op.cmpValue (FP.dcmp x1 x1) .l) = (nI 0) then some (.inr r2.2) else if (Op.cmpValue (FP.dcmp r2.1 r2.1) .l) = (nI 0) then some (.inr r2.2) else some (.inl r2.2)
set_option maxRecDepth 20000 in
theorem c_51 {X : Nat × (Nat → Int32)} {d : Nat} {Q : ax_O → ax_H → Prop} {m : dM} {i : Int32} {v : dM ⊕ dM} (hD : C51 X m i = some v) (kk : lwK X d Q i v) : ax_Wp X (d + 11 + 1) 283 (2723, [some (.retAddr 0), some (.ref 0), some (.ref 130), some (.ref 138), some (.int i), none, none, none, none], []) (stt m) Q := by
  unfold C51 at hD
  refine ax_Wp.go (f' := (2724, [some (.retAddr 0), some (.ref 0), some (.ref 130), some (.ref 138), some (.int i), none, none, none, none], [.ref 0])) 1 rfl ?_
  refine bnd hD (fun x1 hx hD => ?_)
  refine ax_Wp.callE (f' := (2727, [some (.retAddr 0), some (.ref 0), some (.ref 130), some (.ref 138), some (.int i), none, none, none, none], [])) rfl rfl (w_121 (d := d + 9) hx) rfl ?_
  refine ax_Wp.go (f' := (2730, [some (.retAddr 0), some (.ref 0), some (.ref 130), some (.ref 138), some (.int i), some (.double x1), none, none, none], [.ref 130])) 2 rfl ?_
  refine bnd hD (fun r2 hx hD => ?_)
  refine ax_Wp.callE (f' := (2733, [some (.retAddr 0), some (.ref 0), some (.ref 130), some (.ref 138), some (.int i), some (.double x1), none, none, none], [])) rfl rfl (w_240 (d := d + 8) hx) rfl ?_
  refine ax_Wp.go (f' := (2740, [some (.retAddr 0), some (.ref 0), some (.ref 130), some (.ref 138), some (.int i), some (.double x1), none, some (.double r2.1), none], [.int (Op.cmpValue (FP.dcmp x1 r2.1) .l)])) 4 rfl ?_
  refine ax_Wp.brD hD rfl (fun _ hD => ?_) (fun _ hD => ?_)
  · refine ax_Wp.go (f' := (2778, [some (.retAddr 0), some (.ref 0), some (.ref 130), some (.ref 138), some (.int i), some (.double x1), none, some (.double r2.1), none], [])) 1 rfl ?_
    obtain rfl := inj hD
    exact ax_Wp.dead kk ⟨.inl rfl, ⟨.inl rfl, ⟨.inl rfl, ⟨.inl rfl, ⟨.inl rfl, ⟨.inr ⟨rfl, trivial⟩, ⟨.inl rfl, ⟨.inr ⟨rfl, trivial⟩, ⟨.inl rfl, trivial⟩⟩⟩⟩⟩⟩⟩⟩⟩
  · refine ax_Wp.go (f' := (2748, [some (.retAddr 0), some (.ref 0), some (.ref 130), some (.ref 138), some (.int i), some (.double x1), none, some (.double r2.1), none], [.int (Op.cmpValue (FP.dcmp x1 x1) .l)])) 3 rfl ?_
    refine ax_Wp.brD hD rfl (fun _ hD => ?_) (fun _ hD => ?_)
    · refine ax_Wp.go (f' := (2760, [some (.retAddr 0), some (.ref 0), some (.ref 130), some (.ref 138), some (.int i), some (.double x1), none, some (.double r2.1), none], [.int (nI 0)])) 1 rfl ?_
      obtain rfl := inj hD
      exact ax_Wp.ret rfl kk
    · refine ax_Wp.go (f' := (2756, [some (.retAddr 0), some (.ref 0), some (.ref 130), some (.ref 138), some (.int i), some (.double x1), none, some (.double r2.1), none], [.int (Op.cmpValue (FP.dcmp r2.1 r2.1) .l)])) 3 rfl ?_
      refine ax_Wp.brD hD rfl (fun _ hD => ?_) (fun _ hD => ?_)
      · refine ax_Wp.go (f' := (2760, [some (.retAddr 0), some (.ref 0), some (.ref 130), some (.ref 138), some (.int i), some (.double x1), none, some (.double r2.1), none], [.int (nI 0)])) 1 rfl ?_
        obtain rfl := inj hD
        exact ax_Wp.ret rfl kk
      · refine ax_Wp.go (f' := (2778, [some (.retAddr 0), some (.ref 0), some (.ref 130), some (.ref 138), some (.int i), some (.double x1), none, some (.double r2.1), none], [])) 1 rfl ?_
        obtain rfl := inj hD
        exact ax_Wp.dead kk ⟨.inl rfl, ⟨.inl rfl, ⟨.inl rfl, ⟨.inl rfl, ⟨.inl rfl, ⟨.inr ⟨rfl, trivial⟩, ⟨.inl rfl, ⟨.inr ⟨rfl, trivial⟩, ⟨.inl rfl, trivial⟩⟩⟩⟩⟩⟩⟩⟩⟩
def C52 (X : Nat × (Nat → Int32)) (m : dM) (i : Int32) : Option (dM ⊕ dM) := cG (D122 m) (fun (x1 : Int64) (m4 : dM) => (D244 m4).bind fun (r5 : Int64 × dM) => if (lg_cmp x1 r5.1) = (nI 0) then some (.inl r5.2) else some (.inr r5.2)) (fun (j2 : Nat) (m3 : dM) => none)
set_option maxRecDepth 20000 in
theorem c_52 {X : Nat × (Nat → Int32)} {d : Nat} {Q : ax_O → ax_H → Prop} {m : dM} {i : Int32} {v : dM ⊕ dM} (hD : C52 X m i = some v) (kk : lwK X d Q i v) : ax_Wp X (d + 11 + 1) 283 (2764, [some (.retAddr 0), some (.ref 0), some (.ref 130), some (.ref 138), some (.int i), none, none, none, none], []) (stt m) Q := by
  unfold C52 at hD
  refine ax_Wp.go (f' := (2765, [some (.retAddr 0), some (.ref 0), some (.ref 130), some (.ref 138), some (.int i), none, none, none, none], [.ref 0])) 1 rfl ?_
  refine cG.sp hD (fun x1 m4 hx hD => ?_) (fun j2 m3 hx hD => ?_)
  · refine ax_Wp.callE (f' := (2768, [some (.retAddr 0), some (.ref 0), some (.ref 130), some (.ref 138), some (.int i), none, none, none, none], [])) rfl rfl (w_122 (d := d + 2) hx) rfl ?_
    refine ax_Wp.go (f' := (2769, [some (.retAddr 0), some (.ref 0), some (.ref 130), some (.ref 138), some (.int i), none, none, none, none], [.ref 130, .long x1])) 1 rfl ?_
    refine bnd hD (fun r5 hx hD => ?_)
    refine ax_Wp.callE (f' := (2772, [some (.retAddr 0), some (.ref 0), some (.ref 130), some (.ref 138), some (.int i), none, none, none, none], [.long x1])) rfl rfl (w_244 (d := d + 6) hx) rfl ?_
    refine ax_Wp.go (f' := (2773, [some (.retAddr 0), some (.ref 0), some (.ref 130), some (.ref 138), some (.int i), none, none, none, none], [.int (lg_cmp x1 r5.1)])) 1 rfl ?_
    refine ax_Wp.brD hD rfl (fun _ hD => ?_) (fun _ hD => ?_)
    · obtain rfl := inj hD
      exact kk
    · refine ax_Wp.go (f' := (2777, [some (.retAddr 0), some (.ref 0), some (.ref 130), some (.ref 138), some (.int i), none, none, none, none], [.int (nI 0)])) 1 rfl ?_
      obtain rfl := inj hD
      exact ax_Wp.ret rfl kk
  · cases hD
