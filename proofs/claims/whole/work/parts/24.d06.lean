/-! WHAT METHODS DO, printed of their bytecode: 6 -/
def D22_15_127 (m : dM) : Option (dM) := (kL m 128 16 61).bind fun (m1 : dM) => (fI m1 15 1 (rI m1 127 1)).bind fun (m2 : dM) => some m2
set_option maxRecDepth 20000 in
theorem w_22_15_127 {X : Nat × (Nat → Int32)} {d : Nat} {m : dM} {r : dM} (hD : D22_15_127 m = some r) : ax_Ev X (d + 1) 22 [.ref 15, .ref 127] (stt m) (.inl none) (stt r) := by
  unfold D22_15_127 at hD
  show ax_Wp X (d + 0 + 1) 22 (0, [some (.ref 15), some (.ref 127)], []) (stt m) _
  refine ax_Wp.go (f' := (12, [some (.ref 15), some (.ref 127)], [.int (nI 61), .int (nI 0), .ref 16, .int (nI 0), .ref 128])) 7 rfl ?_
  refine ax_Wp.cpL (S' := []) hD rfl rfl (fun _ => rfl) (fun m1 hD => ?_)
  refine ax_Wp.go (f' := (20, [some (.ref 15), some (.ref 127)], [.int (rI m1 127 1), .ref 15])) 3 rfl ?_
  refine ax_Wp.ptI hD rfl rfl rfl (fun m2 hD => ?_)
  obtain rfl := inj hD
  exact ax_Wp.ret rfl ⟨rfl, rfl⟩
def D41_1_113 (m : dM) : Option (dM) := (D58_2_114 m).bind fun (r1 : dM) => (D1_5_117 r1).bind fun (r2 : dM) => (D28_10_122 r2).bind fun (r3 : dM) => (D22_15_127 r3).bind fun (r4 : dM) => (kI r4 129 17 2).bind fun (m5 : dM) => (fI m5 1 5 (rI m5 113 5)).bind fun (m6 : dM) => (fI m6 1 6 (rI m6 113 6)).bind fun (m7 : dM) => (fI m7 1 7 (rI m7 113 7)).bind fun (m8 : dM) => (fI m8 1 8 (rI m8 113 8)).bind fun (m9 : dM) => (fI m9 1 9 (rI m9 113 9)).bind fun (m10 : dM) => some m10
set_option maxRecDepth 20000 in
theorem w_41_1_113 {X : Nat × (Nat → Int32)} {d : Nat} {m : dM} {r : dM} (hD : D41_1_113 m = some r) : ax_Ev X (d + 2) 41 [.ref 1, .ref 113] (stt m) (.inl none) (stt r) := by
  unfold D41_1_113 at hD
  show ax_Wp X (d + 1 + 1) 41 (0, [some (.ref 1), some (.ref 113)], []) (stt m) _
  refine ax_Wp.go (f' := (8, [some (.ref 1), some (.ref 113)], [.ref 114, .ref 2])) 4 rfl ?_
  refine bnd hD (fun r1 hx hD => ?_)
  refine ax_Wp.callE (f' := (11, [some (.ref 1), some (.ref 113)], [])) rfl rfl (w_58_2_114 (d := d + 0) hx) rfl ?_
  refine ax_Wp.go (f' := (19, [some (.ref 1), some (.ref 113)], [.ref 117, .ref 5])) 4 rfl ?_
  refine bnd hD (fun r2 hx hD => ?_)
  refine ax_Wp.callE (f' := (22, [some (.ref 1), some (.ref 113)], [])) rfl rfl (w_1_5_117 (d := d + 0) hx) rfl ?_
  refine ax_Wp.go (f' := (30, [some (.ref 1), some (.ref 113)], [.ref 122, .ref 10])) 4 rfl ?_
  refine bnd hD (fun r3 hx hD => ?_)
  refine ax_Wp.callE (f' := (33, [some (.ref 1), some (.ref 113)], [])) rfl rfl (w_28_10_122 (d := d + 0) hx) rfl ?_
  refine ax_Wp.go (f' := (41, [some (.ref 1), some (.ref 113)], [.ref 127, .ref 15])) 4 rfl ?_
  refine bnd hD (fun r4 hx hD => ?_)
  refine ax_Wp.callE (f' := (44, [some (.ref 1), some (.ref 113)], [])) rfl rfl (w_22_15_127 (d := d + 0) hx) rfl ?_
  refine ax_Wp.go (f' := (55, [some (.ref 1), some (.ref 113)], [.int (nI 2), .int (nI 0), .ref 17, .int (nI 0), .ref 129])) 7 rfl ?_
  refine ax_Wp.cpI (S' := []) hD rfl rfl (fun _ => rfl) (fun m5 hD => ?_)
  refine ax_Wp.go (f' := (63, [some (.ref 1), some (.ref 113)], [.int (rI m5 113 5), .ref 1])) 3 rfl ?_
  refine ax_Wp.ptI hD rfl rfl rfl (fun m6 hD => ?_)
  refine ax_Wp.go (f' := (71, [some (.ref 1), some (.ref 113)], [.int (rI m6 113 6), .ref 1])) 3 rfl ?_
  refine ax_Wp.ptI hD rfl rfl rfl (fun m7 hD => ?_)
  refine ax_Wp.go (f' := (79, [some (.ref 1), some (.ref 113)], [.int (rI m7 113 7), .ref 1])) 3 rfl ?_
  refine ax_Wp.ptI hD rfl rfl rfl (fun m8 hD => ?_)
  refine ax_Wp.go (f' := (87, [some (.ref 1), some (.ref 113)], [.int (rI m8 113 8), .ref 1])) 3 rfl ?_
  refine ax_Wp.ptI hD rfl rfl rfl (fun m9 hD => ?_)
  refine ax_Wp.go (f' := (95, [some (.ref 1), some (.ref 113)], [.int (rI m9 113 9), .ref 1])) 3 rfl ?_
  refine ax_Wp.ptI hD rfl rfl rfl (fun m10 hD => ?_)
  obtain rfl := inj hD
  exact ax_Wp.ret rfl ⟨rfl, rfl⟩
def D41_1_S (m : dM) (x : Nat) : Option dM := if x = 45 then D41_1_45 m else if x = 62 then D41_1_62 m else if x = 79 then D41_1_79 m else if x = 96 then D41_1_96 m else if x = 113 then D41_1_113 m else none
theorem w_41_1_S {X : Nat × (Nat → Int32)} {d : Nat} {m : dM} {x : Nat} {r : dM} (hD : D41_1_S m x = some r) : ax_Ev X (d + 2) 41 [.ref 1, .ref x] (stt m) (.inl none) (stt r) := by
  unfold D41_1_S at hD
  refine swD hD (fun e hD => ?_) (fun _ hD => ?_)
  · cases e; exact w_41_1_45 hD
  refine swD hD (fun e hD => ?_) (fun _ hD => ?_)
  · cases e; exact w_41_1_62 hD
  refine swD hD (fun e hD => ?_) (fun _ hD => ?_)
  · cases e; exact w_41_1_79 hD
  refine swD hD (fun e hD => ?_) (fun _ hD => ?_)
  · cases e; exact w_41_1_96 hD
  refine swD hD (fun e hD => ?_) (fun _ hD => ?_)
  · cases e; exact w_41_1_113 hD
  cases hD
theorem w_41_1_S_is {m : dM} {x : Nat} {r : dM} (hD : D41_1_S m x = some r) : x = 45 ∨ x = 62 ∨ x = 79 ∨ x = 96 ∨ x = 113 := by
  unfold D41_1_S at hD
  refine swD hD (fun e hD => ?_) (fun _ hD => ?_)
  · exact .inl e
  refine swD hD (fun e hD => ?_) (fun _ hD => ?_)
  · exact .inr (.inl e)
  refine swD hD (fun e hD => ?_) (fun _ hD => ?_)
  · exact .inr (.inr (.inl e))
  refine swD hD (fun e hD => ?_) (fun _ hD => ?_)
  · exact .inr (.inr (.inr (.inl e)))
  refine swD hD (fun e hD => ?_) (fun _ hD => ?_)
  · exact .inr (.inr (.inr (.inr (e))))
  cases hD
def D86 (m : dM) : Option ((Int32 ⊕ Nat) × dM) := if (nI 0) < (rI m 0 6) then (fI m 0 6 ((rI m 0 6) - (nI 1))).bind fun (m1 : dM) => (gR m1 (rI m1 0 6)).bind fun (x2 : Nat) => (D41_1_S m1 x2).bind fun (r3 : dM) => some (.inl (rI r3 0 6), r3) else some (.inr 2, (bump m))
set_option maxRecDepth 20000 in
theorem w_86 {X : Nat × (Nat → Int32)} {d : Nat} {m : dM} {r : (Int32 ⊕ Nat) × dM} (hD : D86 m = some r) : ax_Ev X (d + 6) 86 [.ref 0] (stt m) (oT (fun x => some (.int x)) r.1) (stt r.2) := by
  unfold D86 at hD
  show ax_Wp X (d + 5 + 1) 86 (0, [some (.ref 0)], []) (stt m) _
  refine ax_Wp.go (f' := (4, [some (.ref 0)], [.int (rI m 0 6)])) 2 rfl ?_
  refine ax_Wp.brD hD rfl (fun _ hD => ?_) (fun _ hD => ?_)
  · refine ax_Wp.go (f' := (24, [some (.ref 0)], [.int ((rI m 0 6) - (nI 1)), .ref 0])) 5 rfl ?_
    refine ax_Wp.ptI hD rfl rfl rfl (fun m1 hD => ?_)
    refine ax_Wp.go (f' := (39, [some (.ref 0)], [.int (rI m1 0 6), .ref 18, .ref 1])) 6 rfl ?_
    refine ax_Wp.rdR hD rfl (fun x2 hD => ?_)
    refine bnd hD (fun r3 hx hD => ?_)
    refine ax_Wp.callE (f' := (43, [some (.ref 0)], [])) rfl rfl (w_41_1_S (d := d + 3) hx) rfl ?_
    refine ax_Wp.go (f' := (47, [some (.ref 0)], [.int (rI r3 0 6)])) 2 rfl ?_
    obtain rfl := inj hD
    exact ax_Wp.ret rfl ⟨rfl, rfl⟩
  · obtain rfl := inj hD
    exact ax_Wp.thr rfl (ax_six _ rfl) ⟨rfl, rfl⟩
def D258 (m : dM) : Option (Int32 × dM) := cG (D86 m) (fun (x1 : Int32) (m4 : dM) => (sL m4 138 1 (nI 0) x1.toInt64).bind fun (m5 : dM) => some (nI 0, m5)) (fun (j2 : Nat) (m3 : dM) => if j2 = 2 then some (nI 1, m3) else none)
set_option maxRecDepth 20000 in
theorem w_258 {X : Nat × (Nat → Int32)} {d : Nat} {m : dM} {r : Int32 × dM} (hD : D258 m = some r) : ax_Ev X (d + 7) 258 [.ref 0, .ref 138] (stt m) (.inl (some (.int r.1))) (stt r.2) := by
  unfold D258 at hD
  show ax_Wp X (d + 6 + 1) 258 (0, [some (.ref 0), some (.ref 138), none], []) (stt m) _
  refine ax_Wp.go (f' := (3, [some (.ref 0), some (.ref 138), none], [.ref 0, .int (nI 0), .ref 138])) 3 rfl ?_
  refine cG.sp hD (fun x1 m4 hx hD => ?_) (fun j2 m3 hx hD => ?_)
  · refine ax_Wp.callE (f' := (6, [some (.ref 0), some (.ref 138), none], [.int (nI 0), .ref 138])) rfl rfl (w_86 (d := d + 0) hx) rfl ?_
    refine ax_Wp.go (f' := (7, [some (.ref 0), some (.ref 138), none], [.long x1.toInt64, .int (nI 0), .ref 138])) 1 rfl ?_
    refine ax_Wp.wrL hD rfl rfl (fun _ => rfl) (fun m5 hD => ?_)
    refine ax_Wp.go (f' := (15, [some (.ref 0), some (.ref 138), none], [.int (nI 0)])) 2 rfl ?_
    obtain rfl := inj hD
    exact ax_Wp.ret rfl ⟨rfl, rfl⟩
  · refine swD hD (fun e hD => ?_) (fun _ hD => ?_)
    · cases e
      refine ax_Wp.callH (f' := (6, [some (.ref 0), some (.ref 138), none], [.int (nI 0), .ref 138])) (pc2 := 12) (i := 2) rfl rfl (w_86 (d := d + 0) hx) rfl rfl rfl ?_
      refine ax_Wp.go (f' := (13, [some (.ref 0), some (.ref 138), none], [.int (nI 1)])) 1 rfl ?_
      obtain rfl := inj hD
      exact ax_Wp.ret rfl ⟨rfl, rfl⟩
    cases hD
def D58_2_20 (m : dM) : Option (dM) := (kI m 21 3 24).bind fun (m1 : dM) => (kI m1 22 4 24).bind fun (m2 : dM) => (fI m2 2 2 (rI m2 20 2)).bind fun (m3 : dM) => (fI m3 2 3 (rI m3 20 3)).bind fun (m4 : dM) => (fI m4 2 4 (rI m4 20 4)).bind fun (m5 : dM) => some m5
set_option maxRecDepth 20000 in
theorem w_58_2_20 {X : Nat × (Nat → Int32)} {d : Nat} {m : dM} {r : dM} (hD : D58_2_20 m = some r) : ax_Ev X (d + 1) 58 [.ref 2, .ref 20] (stt m) (.inl none) (stt r) := by
  unfold D58_2_20 at hD
  show ax_Wp X (d + 0 + 1) 58 (0, [some (.ref 2), some (.ref 20)], []) (stt m) _
  refine ax_Wp.go (f' := (12, [some (.ref 2), some (.ref 20)], [.int (nI 24), .int (nI 0), .ref 3, .int (nI 0), .ref 21])) 7 rfl ?_
  refine ax_Wp.cpI (S' := []) hD rfl rfl (fun _ => rfl) (fun m1 hD => ?_)
  refine ax_Wp.go (f' := (27, [some (.ref 2), some (.ref 20)], [.int (nI 24), .int (nI 0), .ref 4, .int (nI 0), .ref 22])) 7 rfl ?_
  refine ax_Wp.cpI (S' := []) hD rfl rfl (fun _ => rfl) (fun m2 hD => ?_)
  refine ax_Wp.go (f' := (35, [some (.ref 2), some (.ref 20)], [.int (rI m2 20 2), .ref 2])) 3 rfl ?_
  refine ax_Wp.ptI hD rfl rfl rfl (fun m3 hD => ?_)
  refine ax_Wp.go (f' := (43, [some (.ref 2), some (.ref 20)], [.int (rI m3 20 3), .ref 2])) 3 rfl ?_
  refine ax_Wp.ptI hD rfl rfl rfl (fun m4 hD => ?_)
  refine ax_Wp.go (f' := (51, [some (.ref 2), some (.ref 20)], [.int (rI m4 20 4), .ref 2])) 3 rfl ?_
  refine ax_Wp.ptI hD rfl rfl rfl (fun m5 hD => ?_)
  obtain rfl := inj hD
  exact ax_Wp.ret rfl ⟨rfl, rfl⟩
def D1_5_23 (m : dM) : Option (dM) := (kI m 24 6 4).bind fun (m1 : dM) => (kI m1 25 7 4).bind fun (m2 : dM) => (kI m2 26 8 4).bind fun (m3 : dM) => (kI m3 27 9 4).bind fun (m4 : dM) => (fI m4 5 4 (rI m4 23 4)).bind fun (m5 : dM) => some m5
set_option maxRecDepth 20000 in
theorem w_1_5_23 {X : Nat × (Nat → Int32)} {d : Nat} {m : dM} {r : dM} (hD : D1_5_23 m = some r) : ax_Ev X (d + 1) 1 [.ref 5, .ref 23] (stt m) (.inl none) (stt r) := by
  unfold D1_5_23 at hD
  show ax_Wp X (d + 0 + 1) 1 (0, [some (.ref 5), some (.ref 23)], []) (stt m) _
  refine ax_Wp.go (f' := (11, [some (.ref 5), some (.ref 23)], [.int (nI 4), .int (nI 0), .ref 6, .int (nI 0), .ref 24])) 7 rfl ?_
  refine ax_Wp.cpI (S' := []) hD rfl rfl (fun _ => rfl) (fun m1 hD => ?_)
  refine ax_Wp.go (f' := (25, [some (.ref 5), some (.ref 23)], [.int (nI 4), .int (nI 0), .ref 7, .int (nI 0), .ref 25])) 7 rfl ?_
  refine ax_Wp.cpI (S' := []) hD rfl rfl (fun _ => rfl) (fun m2 hD => ?_)
  refine ax_Wp.go (f' := (39, [some (.ref 5), some (.ref 23)], [.int (nI 4), .int (nI 0), .ref 8, .int (nI 0), .ref 26])) 7 rfl ?_
  refine ax_Wp.cpI (S' := []) hD rfl rfl (fun _ => rfl) (fun m3 hD => ?_)
  refine ax_Wp.go (f' := (53, [some (.ref 5), some (.ref 23)], [.int (nI 4), .int (nI 0), .ref 9, .int (nI 0), .ref 27])) 7 rfl ?_
  refine ax_Wp.cpI (S' := []) hD rfl rfl (fun _ => rfl) (fun m4 hD => ?_)
  refine ax_Wp.go (f' := (61, [some (.ref 5), some (.ref 23)], [.int (rI m4 23 4), .ref 5])) 3 rfl ?_
  refine ax_Wp.ptI hD rfl rfl rfl (fun m5 hD => ?_)
  obtain rfl := inj hD
  exact ax_Wp.ret rfl ⟨rfl, rfl⟩
def D28_10_28 (m : dM) : Option (dM) := (kI m 29 11 8).bind fun (m1 : dM) => (kI m1 30 12 8).bind fun (m2 : dM) => (kI m2 31 13 8).bind fun (m3 : dM) => (kI m3 32 14 8).bind fun (m4 : dM) => (fI m4 10 4 (rI m4 28 4)).bind fun (m5 : dM) => some m5
set_option maxRecDepth 20000 in
theorem w_28_10_28 {X : Nat × (Nat → Int32)} {d : Nat} {m : dM} {r : dM} (hD : D28_10_28 m = some r) : ax_Ev X (d + 1) 28 [.ref 10, .ref 28] (stt m) (.inl none) (stt r) := by
  unfold D28_10_28 at hD
  show ax_Wp X (d + 0 + 1) 28 (0, [some (.ref 10), some (.ref 28)], []) (stt m) _
  refine ax_Wp.go (f' := (12, [some (.ref 10), some (.ref 28)], [.int (nI 8), .int (nI 0), .ref 11, .int (nI 0), .ref 29])) 7 rfl ?_
  refine ax_Wp.cpI (S' := []) hD rfl rfl (fun _ => rfl) (fun m1 hD => ?_)
  refine ax_Wp.go (f' := (27, [some (.ref 10), some (.ref 28)], [.int (nI 8), .int (nI 0), .ref 12, .int (nI 0), .ref 30])) 7 rfl ?_
  refine ax_Wp.cpI (S' := []) hD rfl rfl (fun _ => rfl) (fun m2 hD => ?_)
  refine ax_Wp.go (f' := (42, [some (.ref 10), some (.ref 28)], [.int (nI 8), .int (nI 0), .ref 13, .int (nI 0), .ref 31])) 7 rfl ?_
  refine ax_Wp.cpI (S' := []) hD rfl rfl (fun _ => rfl) (fun m3 hD => ?_)
  refine ax_Wp.go (f' := (57, [some (.ref 10), some (.ref 28)], [.int (nI 8), .int (nI 0), .ref 14, .int (nI 0), .ref 32])) 7 rfl ?_
  refine ax_Wp.cpI (S' := []) hD rfl rfl (fun _ => rfl) (fun m4 hD => ?_)
  refine ax_Wp.go (f' := (65, [some (.ref 10), some (.ref 28)], [.int (rI m4 28 4), .ref 10])) 3 rfl ?_
  refine ax_Wp.ptI hD rfl rfl rfl (fun m5 hD => ?_)
  obtain rfl := inj hD
  exact ax_Wp.ret rfl ⟨rfl, rfl⟩
def D22_15_33 (m : dM) : Option (dM) := (kL m 34 16 61).bind fun (m1 : dM) => (fI m1 15 1 (rI m1 33 1)).bind fun (m2 : dM) => some m2
set_option maxRecDepth 20000 in
theorem w_22_15_33 {X : Nat × (Nat → Int32)} {d : Nat} {m : dM} {r : dM} (hD : D22_15_33 m = some r) : ax_Ev X (d + 1) 22 [.ref 15, .ref 33] (stt m) (.inl none) (stt r) := by
  unfold D22_15_33 at hD
  show ax_Wp X (d + 0 + 1) 22 (0, [some (.ref 15), some (.ref 33)], []) (stt m) _
  refine ax_Wp.go (f' := (12, [some (.ref 15), some (.ref 33)], [.int (nI 61), .int (nI 0), .ref 16, .int (nI 0), .ref 34])) 7 rfl ?_
  refine ax_Wp.cpL (S' := []) hD rfl rfl (fun _ => rfl) (fun m1 hD => ?_)
  refine ax_Wp.go (f' := (20, [some (.ref 15), some (.ref 33)], [.int (rI m1 33 1), .ref 15])) 3 rfl ?_
  refine ax_Wp.ptI hD rfl rfl rfl (fun m2 hD => ?_)
  obtain rfl := inj hD
  exact ax_Wp.ret rfl ⟨rfl, rfl⟩
def D41_1_19 (m : dM) : Option (dM) := (D58_2_20 m).bind fun (r1 : dM) => (D1_5_23 r1).bind fun (r2 : dM) => (D28_10_28 r2).bind fun (r3 : dM) => (D22_15_33 r3).bind fun (r4 : dM) => (kI r4 35 17 2).bind fun (m5 : dM) => (fI m5 1 5 (rI m5 19 5)).bind fun (m6 : dM) => (fI m6 1 6 (rI m6 19 6)).bind fun (m7 : dM) => (fI m7 1 7 (rI m7 19 7)).bind fun (m8 : dM) => (fI m8 1 8 (rI m8 19 8)).bind fun (m9 : dM) => (fI m9 1 9 (rI m9 19 9)).bind fun (m10 : dM) => some m10
set_option maxRecDepth 20000 in
theorem w_41_1_19 {X : Nat × (Nat → Int32)} {d : Nat} {m : dM} {r : dM} (hD : D41_1_19 m = some r) : ax_Ev X (d + 2) 41 [.ref 1, .ref 19] (stt m) (.inl none) (stt r) := by
  unfold D41_1_19 at hD
  show ax_Wp X (d + 1 + 1) 41 (0, [some (.ref 1), some (.ref 19)], []) (stt m) _
  refine ax_Wp.go (f' := (8, [some (.ref 1), some (.ref 19)], [.ref 20, .ref 2])) 4 rfl ?_
  refine bnd hD (fun r1 hx hD => ?_)
  refine ax_Wp.callE (f' := (11, [some (.ref 1), some (.ref 19)], [])) rfl rfl (w_58_2_20 (d := d + 0) hx) rfl ?_
  refine ax_Wp.go (f' := (19, [some (.ref 1), some (.ref 19)], [.ref 23, .ref 5])) 4 rfl ?_
  refine bnd hD (fun r2 hx hD => ?_)
  refine ax_Wp.callE (f' := (22, [some (.ref 1), some (.ref 19)], [])) rfl rfl (w_1_5_23 (d := d + 0) hx) rfl ?_
  refine ax_Wp.go (f' := (30, [some (.ref 1), some (.ref 19)], [.ref 28, .ref 10])) 4 rfl ?_
  refine bnd hD (fun r3 hx hD => ?_)
  refine ax_Wp.callE (f' := (33, [some (.ref 1), some (.ref 19)], [])) rfl rfl (w_28_10_28 (d := d + 0) hx) rfl ?_
  refine ax_Wp.go (f' := (41, [some (.ref 1), some (.ref 19)], [.ref 33, .ref 15])) 4 rfl ?_
  refine bnd hD (fun r4 hx hD => ?_)
  refine ax_Wp.callE (f' := (44, [some (.ref 1), some (.ref 19)], [])) rfl rfl (w_22_15_33 (d := d + 0) hx) rfl ?_
  refine ax_Wp.go (f' := (55, [some (.ref 1), some (.ref 19)], [.int (nI 2), .int (nI 0), .ref 17, .int (nI 0), .ref 35])) 7 rfl ?_
  refine ax_Wp.cpI (S' := []) hD rfl rfl (fun _ => rfl) (fun m5 hD => ?_)
  refine ax_Wp.go (f' := (63, [some (.ref 1), some (.ref 19)], [.int (rI m5 19 5), .ref 1])) 3 rfl ?_
  refine ax_Wp.ptI hD rfl rfl rfl (fun m6 hD => ?_)
  refine ax_Wp.go (f' := (71, [some (.ref 1), some (.ref 19)], [.int (rI m6 19 6), .ref 1])) 3 rfl ?_
  refine ax_Wp.ptI hD rfl rfl rfl (fun m7 hD => ?_)
  refine ax_Wp.go (f' := (79, [some (.ref 1), some (.ref 19)], [.int (rI m7 19 7), .ref 1])) 3 rfl ?_
  refine ax_Wp.ptI hD rfl rfl rfl (fun m8 hD => ?_)
  refine ax_Wp.go (f' := (87, [some (.ref 1), some (.ref 19)], [.int (rI m8 19 8), .ref 1])) 3 rfl ?_
  refine ax_Wp.ptI hD rfl rfl rfl (fun m9 hD => ?_)
  refine ax_Wp.go (f' := (95, [some (.ref 1), some (.ref 19)], [.int (rI m9 19 9), .ref 1])) 3 rfl ?_
  refine ax_Wp.ptI hD rfl rfl rfl (fun m10 hD => ?_)
  obtain rfl := inj hD
  exact ax_Wp.ret rfl ⟨rfl, rfl⟩
def D88 (m : dM) : Option ((Int32 ⊕ Nat) × dM) := if (rI m 0 7) = (nI 0) then some (.inr 2, (bump m)) else (D131 m).bind fun (r1 : dM) => (D41_1_19 r1).bind fun (r2 : dM) => some (.inl (rI r2 1 7), r2)
set_option maxRecDepth 20000 in
theorem w_88 {X : Nat × (Nat → Int32)} {d : Nat} {m : dM} {r : (Int32 ⊕ Nat) × dM} (hD : D88 m = some r) : ax_Ev X (d + 6) 88 [.ref 0] (stt m) (oT (fun x => some (.int x)) r.1) (stt r.2) := by
  unfold D88 at hD
  show ax_Wp X (d + 5 + 1) 88 (0, [some (.ref 0)], []) (stt m) _
  refine ax_Wp.go (f' := (4, [some (.ref 0)], [.int (rI m 0 7)])) 2 rfl ?_
  refine ax_Wp.brD hD rfl (fun _ hD => ?_) (fun _ hD => ?_)
  · obtain rfl := inj hD
    exact ax_Wp.thr rfl (ax_six _ rfl) ⟨rfl, rfl⟩
  · refine ax_Wp.go (f' := (18, [some (.ref 0)], [.ref 0])) 1 rfl ?_
    refine bnd hD (fun r1 hx hD => ?_)
    refine ax_Wp.callE (f' := (21, [some (.ref 0)], [])) rfl rfl (w_131 (d := d + 2) hx) rfl ?_
    refine ax_Wp.go (f' := (29, [some (.ref 0)], [.ref 19, .ref 1])) 4 rfl ?_
    refine bnd hD (fun r2 hx hD => ?_)
    refine ax_Wp.callE (f' := (32, [some (.ref 0)], [])) rfl rfl (w_41_1_19 (d := d + 3) hx) rfl ?_
    refine ax_Wp.go (f' := (39, [some (.ref 0)], [.int (rI r2 1 7)])) 3 rfl ?_
    obtain rfl := inj hD
    exact ax_Wp.ret rfl ⟨rfl, rfl⟩
def D259 (m : dM) : Option (Int32 × dM) := cG (D88 m) (fun (x1 : Int32) (m4 : dM) => (sL m4 138 1 (nI 0) x1.toInt64).bind fun (m5 : dM) => some (nI 0, m5)) (fun (j2 : Nat) (m3 : dM) => if j2 = 2 then some (nI 1, m3) else none)
set_option maxRecDepth 20000 in
theorem w_259 {X : Nat × (Nat → Int32)} {d : Nat} {m : dM} {r : Int32 × dM} (hD : D259 m = some r) : ax_Ev X (d + 7) 259 [.ref 0, .ref 138] (stt m) (.inl (some (.int r.1))) (stt r.2) := by
  unfold D259 at hD
  show ax_Wp X (d + 6 + 1) 259 (0, [some (.ref 0), some (.ref 138), none], []) (stt m) _
  refine ax_Wp.go (f' := (3, [some (.ref 0), some (.ref 138), none], [.ref 0, .int (nI 0), .ref 138])) 3 rfl ?_
  refine cG.sp hD (fun x1 m4 hx hD => ?_) (fun j2 m3 hx hD => ?_)
  · refine ax_Wp.callE (f' := (6, [some (.ref 0), some (.ref 138), none], [.int (nI 0), .ref 138])) rfl rfl (w_88 (d := d + 0) hx) rfl ?_
    refine ax_Wp.go (f' := (7, [some (.ref 0), some (.ref 138), none], [.long x1.toInt64, .int (nI 0), .ref 138])) 1 rfl ?_
    refine ax_Wp.wrL hD rfl rfl (fun _ => rfl) (fun m5 hD => ?_)
    refine ax_Wp.go (f' := (15, [some (.ref 0), some (.ref 138), none], [.int (nI 0)])) 2 rfl ?_
    obtain rfl := inj hD
    exact ax_Wp.ret rfl ⟨rfl, rfl⟩
  · refine swD hD (fun e hD => ?_) (fun _ hD => ?_)
    · cases e
      refine ax_Wp.callH (f' := (6, [some (.ref 0), some (.ref 138), none], [.int (nI 0), .ref 138])) (pc2 := 12) (i := 2) rfl rfl (w_88 (d := d + 0) hx) rfl rfl rfl ?_
      refine ax_Wp.go (f' := (13, [some (.ref 0), some (.ref 138), none], [.int (nI 1)])) 1 rfl ?_
      obtain rfl := inj hD
      exact ax_Wp.ret rfl ⟨rfl, rfl⟩
    cases hD
def D91 (m : dM) (p0 : Int32) : Option (Int32 ⊕ Nat) := cT (D126 m p0) m (fun (x1 : Unit) => (gI m 3 24 p0).bind fun (x4 : Int32) => some (.inl x4)) (fun (j2 : Nat) (m3 : dM) => some (.inr j2))
set_option maxRecDepth 20000 in
theorem w_91 {X : Nat × (Nat → Int32)} {d : Nat} {m : dM} {p0 : Int32} {r : Int32 ⊕ Nat} (hD : D91 m p0 = some r) : ax_Ev X (d + 7) 91 [.ref 0, .int p0] (stt m) (oT (fun x => some (.int x)) r) (stt (bT m r)) := by
  unfold D91 at hD
  show ax_Wp X (d + 6 + 1) 91 (0, [some (.ref 0), some (.int p0)], []) (stt m) _
  refine ax_Wp.go (f' := (2, [some (.ref 0), some (.int p0)], [.int p0, .ref 0])) 2 rfl ?_
  refine cT.sp hD (fun x1 hx hD => ?_) (fun j2 hx hD => ?_)
  · refine ax_Wp.callE (f' := (5, [some (.ref 0), some (.int p0)], [])) rfl rfl (w_126 (d := d + 0) hx) rfl ?_
    refine ax_Wp.go (f' := (16, [some (.ref 0), some (.int p0)], [.int p0, .ref 3])) 5 rfl ?_
    refine ax_Wp.rdI hD rfl rfl rfl (fun x4 hD => ?_)
    obtain rfl := inj hD
    exact ax_Wp.ret rfl ⟨rfl, rfl⟩
  · obtain rfl := inj hD
    exact ax_Wp.callX (f' := (5, [some (.ref 0), some (.int p0)], [])) rfl rfl (w_126 (d := d + 0) hx) rfl ⟨rfl, rfl⟩
def D260 (m : dM) (p0 : Int32) : Option (Int32 × dM) := cT (D91 m p0) m (fun (x1 : Int32) => (sL m 138 1 (nI 0) x1.toInt64).bind fun (m4 : dM) => some (nI 0, m4)) (fun (j2 : Nat) (m3 : dM) => if j2 = 0 then some (nI 1, m3) else none)
set_option maxRecDepth 20000 in
theorem w_260 {X : Nat × (Nat → Int32)} {d : Nat} {m : dM} {p0 : Int32} {r : Int32 × dM} (hD : D260 m p0 = some r) : ax_Ev X (d + 8) 260 [.ref 0, .int p0, .ref 138] (stt m) (.inl (some (.int r.1))) (stt r.2) := by
  unfold D260 at hD
  show ax_Wp X (d + 7 + 1) 260 (0, [some (.ref 0), some (.int p0), some (.ref 138), none], []) (stt m) _
  refine ax_Wp.go (f' := (4, [some (.ref 0), some (.int p0), some (.ref 138), none], [.int p0, .ref 0, .int (nI 0), .ref 138])) 4 rfl ?_
  refine cT.sp hD (fun x1 hx hD => ?_) (fun j2 hx hD => ?_)
  · refine ax_Wp.callE (f' := (7, [some (.ref 0), some (.int p0), some (.ref 138), none], [.int (nI 0), .ref 138])) rfl rfl (w_91 (d := d + 0) hx) rfl ?_
    refine ax_Wp.go (f' := (8, [some (.ref 0), some (.int p0), some (.ref 138), none], [.long x1.toInt64, .int (nI 0), .ref 138])) 1 rfl ?_
    refine ax_Wp.wrL hD rfl rfl (fun _ => rfl) (fun m4 hD => ?_)
    refine ax_Wp.go (f' := (16, [some (.ref 0), some (.int p0), some (.ref 138), none], [.int (nI 0)])) 2 rfl ?_
    obtain rfl := inj hD
    exact ax_Wp.ret rfl ⟨rfl, rfl⟩
  · refine swD hD (fun e hD => ?_) (fun _ hD => ?_)
    · cases e
      refine ax_Wp.callH (f' := (7, [some (.ref 0), some (.int p0), some (.ref 138), none], [.int (nI 0), .ref 138])) (pc2 := 13) (i := 3) rfl rfl (w_91 (d := d + 0) hx) rfl rfl rfl ?_
      refine ax_Wp.go (f' := (14, [some (.ref 0), some (.int p0), some (.ref 138), none], [.int (nI 1)])) 1 rfl ?_
      obtain rfl := inj hD
      exact ax_Wp.ret rfl ⟨rfl, rfl⟩
    cases hD
def D92 (m : dM) (p0 : Int32) : Option (Int32 ⊕ Nat) := cT (D126 m p0) m (fun (x1 : Unit) => (gI m 4 24 p0).bind fun (x4 : Int32) => some (.inl x4)) (fun (j2 : Nat) (m3 : dM) => some (.inr j2))
set_option maxRecDepth 20000 in
theorem w_92 {X : Nat × (Nat → Int32)} {d : Nat} {m : dM} {p0 : Int32} {r : Int32 ⊕ Nat} (hD : D92 m p0 = some r) : ax_Ev X (d + 7) 92 [.ref 0, .int p0] (stt m) (oT (fun x => some (.int x)) r) (stt (bT m r)) := by
  unfold D92 at hD
  show ax_Wp X (d + 6 + 1) 92 (0, [some (.ref 0), some (.int p0)], []) (stt m) _
  refine ax_Wp.go (f' := (2, [some (.ref 0), some (.int p0)], [.int p0, .ref 0])) 2 rfl ?_
  refine cT.sp hD (fun x1 hx hD => ?_) (fun j2 hx hD => ?_)
  · refine ax_Wp.callE (f' := (5, [some (.ref 0), some (.int p0)], [])) rfl rfl (w_126 (d := d + 0) hx) rfl ?_
    refine ax_Wp.go (f' := (16, [some (.ref 0), some (.int p0)], [.int p0, .ref 4])) 5 rfl ?_
    refine ax_Wp.rdI hD rfl rfl rfl (fun x4 hD => ?_)
    obtain rfl := inj hD
    exact ax_Wp.ret rfl ⟨rfl, rfl⟩
  · obtain rfl := inj hD
    exact ax_Wp.callX (f' := (5, [some (.ref 0), some (.int p0)], [])) rfl rfl (w_126 (d := d + 0) hx) rfl ⟨rfl, rfl⟩
def D261 (m : dM) (p0 : Int32) : Option (Int32 × dM) := cT (D92 m p0) m (fun (x1 : Int32) => (sL m 138 1 (nI 0) x1.toInt64).bind fun (m4 : dM) => some (nI 0, m4)) (fun (j2 : Nat) (m3 : dM) => if j2 = 0 then some (nI 1, m3) else none)
set_option maxRecDepth 20000 in
theorem w_261 {X : Nat × (Nat → Int32)} {d : Nat} {m : dM} {p0 : Int32} {r : Int32 × dM} (hD : D261 m p0 = some r) : ax_Ev X (d + 8) 261 [.ref 0, .int p0, .ref 138] (stt m) (.inl (some (.int r.1))) (stt r.2) := by
  unfold D261 at hD
  show ax_Wp X (d + 7 + 1) 261 (0, [some (.ref 0), some (.int p0), some (.ref 138), none], []) (stt m) _
  refine ax_Wp.go (f' := (4, [some (.ref 0), some (.int p0), some (.ref 138), none], [.int p0, .ref 0, .int (nI 0), .ref 138])) 4 rfl ?_
  refine cT.sp hD (fun x1 hx hD => ?_) (fun j2 hx hD => ?_)
  · refine ax_Wp.callE (f' := (7, [some (.ref 0), some (.int p0), some (.ref 138), none], [.int (nI 0), .ref 138])) rfl rfl (w_92 (d := d + 0) hx) rfl ?_
    refine ax_Wp.go (f' := (8, [some (.ref 0), some (.int p0), some (.ref 138), none], [.long x1.toInt64, .int (nI 0), .ref 138])) 1 rfl ?_
    refine ax_Wp.wrL hD rfl rfl (fun _ => rfl) (fun m4 hD => ?_)
    refine ax_Wp.go (f' := (16, [some (.ref 0), some (.int p0), some (.ref 138), none], [.int (nI 0)])) 2 rfl ?_
    obtain rfl := inj hD
    exact ax_Wp.ret rfl ⟨rfl, rfl⟩
  · refine swD hD (fun e hD => ?_) (fun _ hD => ?_)
    · cases e
      refine ax_Wp.callH (f' := (7, [some (.ref 0), some (.int p0), some (.ref 138), none], [.int (nI 0), .ref 138])) (pc2 := 13) (i := 3) rfl rfl (w_92 (d := d + 0) hx) rfl rfl rfl ?_
      refine ax_Wp.go (f' := (14, [some (.ref 0), some (.int p0), some (.ref 138), none], [.int (nI 1)])) 1 rfl ?_
      obtain rfl := inj hD
      exact ax_Wp.ret rfl ⟨rfl, rfl⟩
    cases hD
def D93 (m : dM) (p0 : Int32) : Option (Int32 ⊕ Nat) := cT (D126 m p0) m (fun (x1 : Unit) => (D62 m p0).bind fun (x4 : Int32) => (gB x4).bind fun (b5 : Int32) => some (.inl b5)) (fun (j2 : Nat) (m3 : dM) => some (.inr j2))
set_option maxRecDepth 20000 in
theorem w_93 {X : Nat × (Nat → Int32)} {d : Nat} {m : dM} {p0 : Int32} {r : Int32 ⊕ Nat} (hD : D93 m p0 = some r) : ax_Ev X (d + 7) 93 [.ref 0, .int p0] (stt m) (oT (fun x => some (.int x)) r) (stt (bT m r)) := by
  unfold D93 at hD
  show ax_Wp X (d + 6 + 1) 93 (0, [some (.ref 0), some (.int p0)], []) (stt m) _
  refine ax_Wp.go (f' := (2, [some (.ref 0), some (.int p0)], [.int p0, .ref 0])) 2 rfl ?_
  refine cT.sp hD (fun x1 hx hD => ?_) (fun j2 hx hD => ?_)
  · refine ax_Wp.callE (f' := (5, [some (.ref 0), some (.int p0)], [])) rfl rfl (w_126 (d := d + 0) hx) rfl ?_
    refine ax_Wp.go (f' := (13, [some (.ref 0), some (.int p0)], [.int p0, .ref 2])) 4 rfl ?_
    refine bnd hD (fun x4 hx hD => ?_)
    refine ax_Wp.callE (f' := (16, [some (.ref 0), some (.int p0)], [])) rfl rfl (w_62 (d := d + 5) hx) rfl ?_
    refine ax_Wp.retB hD rfl (fun b5 hD => ?_)
    obtain rfl := inj hD
    exact ⟨rfl, rfl⟩
  · obtain rfl := inj hD
    exact ax_Wp.callX (f' := (5, [some (.ref 0), some (.int p0)], [])) rfl rfl (w_126 (d := d + 0) hx) rfl ⟨rfl, rfl⟩
def D262 (m : dM) (p0 : Int32) : Option (Int32 × dM) := cT (D93 m p0) m (fun (x1 : Int32) => Option.bind ((if x1 = (nI 0) then some (0 : Int64) else some (1 : Int64)) : Option (Int64)) fun (v4 : Int64) => (sL m 138 1 (nI 0) v4).bind fun (m5 : dM) => some (nI 0, m5)) (fun (j2 : Nat) (m3 : dM) => if j2 = 0 then some (nI 1, m3) else none)
set_option maxRecDepth 20000 in
theorem w_262 {X : Nat × (Nat → Int32)} {d : Nat} {m : dM} {p0 : Int32} {r : Int32 × dM} (hD : D262 m p0 = some r) : ax_Ev X (d + 8) 262 [.ref 0, .int p0, .ref 138] (stt m) (.inl (some (.int r.1))) (stt r.2) := by
  unfold D262 at hD
  show ax_Wp X (d + 7 + 1) 262 (0, [some (.ref 0), some (.int p0), some (.ref 138), none], []) (stt m) _
  refine ax_Wp.go (f' := (4, [some (.ref 0), some (.int p0), some (.ref 138), none], [.int p0, .ref 0, .int (nI 0), .ref 138])) 4 rfl ?_
  refine cT.sp hD (fun x1 hx hD => ?_) (fun j2 hx hD => ?_)
  · refine ax_Wp.callE (f' := (7, [some (.ref 0), some (.int p0), some (.ref 138), none], [.int (nI 0), .ref 138])) rfl rfl (w_93 (d := d + 0) hx) rfl ?_
    refine bnd hD (fun v4 hx hD => ?_)
    refine ax_Wp.jn (F := (15, [some (.ref 0), none, some (.ref 138), none], [.long v4, .int (nI 0), .ref 138])) (hh := stt m) ?_ (fun kkv4 => ?_)
    · refine ax_Wp.wrL hD rfl rfl (fun _ => rfl) (fun m5 hD => ?_)
      refine ax_Wp.go (f' := (23, [some (.ref 0), none, some (.ref 138), none], [.int (nI 0)])) 2 rfl ?_
      obtain rfl := inj hD
      exact ax_Wp.ret rfl ⟨rfl, rfl⟩
    clear hD
    have hD := hx
    clear hx
    refine ax_Wp.brD hD rfl (fun _ hD => ?_) (fun _ hD => ?_)
    · refine ax_Wp.go (f' := (15, [some (.ref 0), some (.int p0), some (.ref 138), none], [.long (0 : Int64), .int (nI 0), .ref 138])) 1 rfl ?_
      obtain rfl := inj hD
      exact ax_Wp.dead kkv4 ⟨.inl rfl, ⟨.inr ⟨rfl, trivial⟩, ⟨.inl rfl, ⟨.inl rfl, trivial⟩⟩⟩⟩
    · refine ax_Wp.go (f' := (15, [some (.ref 0), some (.int p0), some (.ref 138), none], [.long (1 : Int64), .int (nI 0), .ref 138])) 2 rfl ?_
      obtain rfl := inj hD
      exact ax_Wp.dead kkv4 ⟨.inl rfl, ⟨.inr ⟨rfl, trivial⟩, ⟨.inl rfl, ⟨.inl rfl, trivial⟩⟩⟩⟩
  · refine swD hD (fun e hD => ?_) (fun _ hD => ?_)
    · cases e
      refine ax_Wp.callH (f' := (7, [some (.ref 0), some (.int p0), some (.ref 138), none], [.int (nI 0), .ref 138])) (pc2 := 20) (i := 3) rfl rfl (w_93 (d := d + 0) hx) rfl rfl rfl ?_
      refine ax_Wp.go (f' := (21, [some (.ref 0), some (.int p0), some (.ref 138), none], [.int (nI 1)])) 1 rfl ?_
      obtain rfl := inj hD
      exact ax_Wp.ret rfl ⟨rfl, rfl⟩
    cases hD
def D94 (m : dM) (p0 : Int32) : Option (Int32 ⊕ Nat) := cT (D124 p0) m (fun (x1 : Unit) => (gI m 6 4 p0).bind fun (x4 : Int32) => some (.inl x4)) (fun (j2 : Nat) (m3 : dM) => some (.inr j2))
set_option maxRecDepth 20000 in
theorem w_94 {X : Nat × (Nat → Int32)} {d : Nat} {m : dM} {p0 : Int32} {r : Int32 ⊕ Nat} (hD : D94 m p0 = some r) : ax_Ev X (d + 7) 94 [.ref 0, .int p0] (stt m) (oT (fun x => some (.int x)) r) (stt (bT m r)) := by
  unfold D94 at hD
  show ax_Wp X (d + 6 + 1) 94 (0, [some (.ref 0), some (.int p0)], []) (stt m) _
  refine ax_Wp.go (f' := (1, [some (.ref 0), some (.int p0)], [.int p0])) 1 rfl ?_
  refine cT.sp hD (fun x1 hx hD => ?_) (fun j2 hx hD => ?_)
  · refine ax_Wp.callE (f' := (4, [some (.ref 0), some (.int p0)], [])) rfl rfl (w_124 (d := d + 0) hx) rfl ?_
    refine ax_Wp.go (f' := (15, [some (.ref 0), some (.int p0)], [.int p0, .ref 6])) 5 rfl ?_
    refine ax_Wp.rdI hD rfl rfl rfl (fun x4 hD => ?_)
    obtain rfl := inj hD
    exact ax_Wp.ret rfl ⟨rfl, rfl⟩
  · obtain rfl := inj hD
    exact ax_Wp.callX (f' := (4, [some (.ref 0), some (.int p0)], [])) rfl rfl (w_124 (d := d + 0) hx) rfl ⟨rfl, rfl⟩
def D263 (m : dM) (p0 : Int32) : Option (Int32 × dM) := cT (D94 m p0) m (fun (x1 : Int32) => (sL m 138 1 (nI 0) x1.toInt64).bind fun (m4 : dM) => some (nI 0, m4)) (fun (j2 : Nat) (m3 : dM) => if j2 = 0 then some (nI 1, m3) else none)
set_option maxRecDepth 20000 in
theorem w_263 {X : Nat × (Nat → Int32)} {d : Nat} {m : dM} {p0 : Int32} {r : Int32 × dM} (hD : D263 m p0 = some r) : ax_Ev X (d + 8) 263 [.ref 0, .int p0, .ref 138] (stt m) (.inl (some (.int r.1))) (stt r.2) := by
  unfold D263 at hD
  show ax_Wp X (d + 7 + 1) 263 (0, [some (.ref 0), some (.int p0), some (.ref 138), none], []) (stt m) _
  refine ax_Wp.go (f' := (4, [some (.ref 0), some (.int p0), some (.ref 138), none], [.int p0, .ref 0, .int (nI 0), .ref 138])) 4 rfl ?_
  refine cT.sp hD (fun x1 hx hD => ?_) (fun j2 hx hD => ?_)
  · refine ax_Wp.callE (f' := (7, [some (.ref 0), some (.int p0), some (.ref 138), none], [.int (nI 0), .ref 138])) rfl rfl (w_94 (d := d + 0) hx) rfl ?_
    refine ax_Wp.go (f' := (8, [some (.ref 0), some (.int p0), some (.ref 138), none], [.long x1.toInt64, .int (nI 0), .ref 138])) 1 rfl ?_
    refine ax_Wp.wrL hD rfl rfl (fun _ => rfl) (fun m4 hD => ?_)
    refine ax_Wp.go (f' := (16, [some (.ref 0), some (.int p0), some (.ref 138), none], [.int (nI 0)])) 2 rfl ?_
    obtain rfl := inj hD
    exact ax_Wp.ret rfl ⟨rfl, rfl⟩
  · refine swD hD (fun e hD => ?_) (fun _ hD => ?_)
    · cases e
      refine ax_Wp.callH (f' := (7, [some (.ref 0), some (.int p0), some (.ref 138), none], [.int (nI 0), .ref 138])) (pc2 := 13) (i := 3) rfl rfl (w_94 (d := d + 0) hx) rfl rfl rfl ?_
      refine ax_Wp.go (f' := (14, [some (.ref 0), some (.int p0), some (.ref 138), none], [.int (nI 1)])) 1 rfl ?_
      obtain rfl := inj hD
      exact ax_Wp.ret rfl ⟨rfl, rfl⟩
    cases hD
def D95 (m : dM) (p0 : Int32) : Option (Int32 ⊕ Nat) := cT (D124 p0) m (fun (x1 : Unit) => (D3 m p0).bind fun (x4 : Int32) => (gB x4).bind fun (b5 : Int32) => some (.inl b5)) (fun (j2 : Nat) (m3 : dM) => some (.inr j2))
set_option maxRecDepth 20000 in
theorem w_95 {X : Nat × (Nat → Int32)} {d : Nat} {m : dM} {p0 : Int32} {r : Int32 ⊕ Nat} (hD : D95 m p0 = some r) : ax_Ev X (d + 7) 95 [.ref 0, .int p0] (stt m) (oT (fun x => some (.int x)) r) (stt (bT m r)) := by
  unfold D95 at hD
  show ax_Wp X (d + 6 + 1) 95 (0, [some (.ref 0), some (.int p0)], []) (stt m) _
  refine ax_Wp.go (f' := (1, [some (.ref 0), some (.int p0)], [.int p0])) 1 rfl ?_
  refine cT.sp hD (fun x1 hx hD => ?_) (fun j2 hx hD => ?_)
  · refine ax_Wp.callE (f' := (4, [some (.ref 0), some (.int p0)], [])) rfl rfl (w_124 (d := d + 0) hx) rfl ?_
    refine ax_Wp.go (f' := (12, [some (.ref 0), some (.int p0)], [.int p0, .ref 5])) 4 rfl ?_
    refine bnd hD (fun x4 hx hD => ?_)
    refine ax_Wp.callE (f' := (15, [some (.ref 0), some (.int p0)], [])) rfl rfl (w_3 (d := d + 5) hx) rfl ?_
    refine ax_Wp.retB hD rfl (fun b5 hD => ?_)
    obtain rfl := inj hD
    exact ⟨rfl, rfl⟩
  · obtain rfl := inj hD
    exact ax_Wp.callX (f' := (4, [some (.ref 0), some (.int p0)], [])) rfl rfl (w_124 (d := d + 0) hx) rfl ⟨rfl, rfl⟩
def D264 (m : dM) (p0 : Int32) : Option (Int32 × dM) := cT (D95 m p0) m (fun (x1 : Int32) => Option.bind ((if x1 = (nI 0) then some (0 : Int64) else some (1 : Int64)) : Option (Int64)) fun (v4 : Int64) => (sL m 138 1 (nI 0) v4).bind fun (m5 : dM) => some (nI 0, m5)) (fun (j2 : Nat) (m3 : dM) => if j2 = 0 then some (nI 1, m3) else none)
set_option maxRecDepth 20000 in
theorem w_264 {X : Nat × (Nat → Int32)} {d : Nat} {m : dM} {p0 : Int32} {r : Int32 × dM} (hD : D264 m p0 = some r) : ax_Ev X (d + 8) 264 [.ref 0, .int p0, .ref 138] (stt m) (.inl (some (.int r.1))) (stt r.2) := by
  unfold D264 at hD
  show ax_Wp X (d + 7 + 1) 264 (0, [some (.ref 0), some (.int p0), some (.ref 138), none], []) (stt m) _
  refine ax_Wp.go (f' := (4, [some (.ref 0), some (.int p0), some (.ref 138), none], [.int p0, .ref 0, .int (nI 0), .ref 138])) 4 rfl ?_
  refine cT.sp hD (fun x1 hx hD => ?_) (fun j2 hx hD => ?_)
  · refine ax_Wp.callE (f' := (7, [some (.ref 0), some (.int p0), some (.ref 138), none], [.int (nI 0), .ref 138])) rfl rfl (w_95 (d := d + 0) hx) rfl ?_
    refine bnd hD (fun v4 hx hD => ?_)
    refine ax_Wp.jn (F := (15, [some (.ref 0), none, some (.ref 138), none], [.long v4, .int (nI 0), .ref 138])) (hh := stt m) ?_ (fun kkv4 => ?_)
    · refine ax_Wp.wrL hD rfl rfl (fun _ => rfl) (fun m5 hD => ?_)
      refine ax_Wp.go (f' := (23, [some (.ref 0), none, some (.ref 138), none], [.int (nI 0)])) 2 rfl ?_
      obtain rfl := inj hD
      exact ax_Wp.ret rfl ⟨rfl, rfl⟩
    clear hD
    have hD := hx
    clear hx
    refine ax_Wp.brD hD rfl (fun _ hD => ?_) (fun _ hD => ?_)
    · refine ax_Wp.go (f' := (15, [some (.ref 0), some (.int p0), some (.ref 138), none], [.long (0 : Int64), .int (nI 0), .ref 138])) 1 rfl ?_
      obtain rfl := inj hD
      exact ax_Wp.dead kkv4 ⟨.inl rfl, ⟨.inr ⟨rfl, trivial⟩, ⟨.inl rfl, ⟨.inl rfl, trivial⟩⟩⟩⟩
    · refine ax_Wp.go (f' := (15, [some (.ref 0), some (.int p0), some (.ref 138), none], [.long (1 : Int64), .int (nI 0), .ref 138])) 2 rfl ?_
      obtain rfl := inj hD
      exact ax_Wp.dead kkv4 ⟨.inl rfl, ⟨.inr ⟨rfl, trivial⟩, ⟨.inl rfl, ⟨.inl rfl, trivial⟩⟩⟩⟩
  · refine swD hD (fun e hD => ?_) (fun _ hD => ?_)
    · cases e
      refine ax_Wp.callH (f' := (7, [some (.ref 0), some (.int p0), some (.ref 138), none], [.int (nI 0), .ref 138])) (pc2 := 20) (i := 3) rfl rfl (w_95 (d := d + 0) hx) rfl rfl rfl ?_
      refine ax_Wp.go (f' := (21, [some (.ref 0), some (.int p0), some (.ref 138), none], [.int (nI 1)])) 1 rfl ?_
      obtain rfl := inj hD
      exact ax_Wp.ret rfl ⟨rfl, rfl⟩
    cases hD
def D96 (m : dM) (p0 : Int32) : Option (Int32 ⊕ Nat) := cT (D124 p0) m (fun (x1 : Unit) => (D34 m p0).bind fun (x4 : Int32) => some (.inl x4)) (fun (j2 : Nat) (m3 : dM) => some (.inr j2))
set_option maxRecDepth 20000 in
theorem w_96 {X : Nat × (Nat → Int32)} {d : Nat} {m : dM} {p0 : Int32} {r : Int32 ⊕ Nat} (hD : D96 m p0 = some r) : ax_Ev X (d + 7) 96 [.ref 0, .int p0] (stt m) (oT (fun x => some (.int x)) r) (stt (bT m r)) := by
  unfold D96 at hD
  show ax_Wp X (d + 6 + 1) 96 (0, [some (.ref 0), some (.int p0)], []) (stt m) _
  refine ax_Wp.go (f' := (1, [some (.ref 0), some (.int p0)], [.int p0])) 1 rfl ?_
  refine cT.sp hD (fun x1 hx hD => ?_) (fun j2 hx hD => ?_)
  · refine ax_Wp.callE (f' := (4, [some (.ref 0), some (.int p0)], [])) rfl rfl (w_124 (d := d + 0) hx) rfl ?_
    refine ax_Wp.go (f' := (12, [some (.ref 0), some (.int p0)], [.int p0, .ref 10])) 4 rfl ?_
    refine bnd hD (fun x4 hx hD => ?_)
    refine ax_Wp.callE (f' := (15, [some (.ref 0), some (.int p0)], [])) rfl rfl (w_34 (d := d + 5) hx) rfl ?_
    obtain rfl := inj hD
    exact ax_Wp.ret rfl ⟨rfl, rfl⟩
  · obtain rfl := inj hD
    exact ax_Wp.callX (f' := (4, [some (.ref 0), some (.int p0)], [])) rfl rfl (w_124 (d := d + 0) hx) rfl ⟨rfl, rfl⟩
def D265 (m : dM) (p0 : Int32) : Option (Int32 × dM) := cT (D96 m p0) m (fun (x1 : Int32) => (sL m 138 1 (nI 0) x1.toInt64).bind fun (m4 : dM) => some (nI 0, m4)) (fun (j2 : Nat) (m3 : dM) => if j2 = 0 then some (nI 1, m3) else none)
set_option maxRecDepth 20000 in
theorem w_265 {X : Nat × (Nat → Int32)} {d : Nat} {m : dM} {p0 : Int32} {r : Int32 × dM} (hD : D265 m p0 = some r) : ax_Ev X (d + 8) 265 [.ref 0, .int p0, .ref 138] (stt m) (.inl (some (.int r.1))) (stt r.2) := by
  unfold D265 at hD
  show ax_Wp X (d + 7 + 1) 265 (0, [some (.ref 0), some (.int p0), some (.ref 138), none], []) (stt m) _
  refine ax_Wp.go (f' := (4, [some (.ref 0), some (.int p0), some (.ref 138), none], [.int p0, .ref 0, .int (nI 0), .ref 138])) 4 rfl ?_
  refine cT.sp hD (fun x1 hx hD => ?_) (fun j2 hx hD => ?_)
  · refine ax_Wp.callE (f' := (7, [some (.ref 0), some (.int p0), some (.ref 138), none], [.int (nI 0), .ref 138])) rfl rfl (w_96 (d := d + 0) hx) rfl ?_
    refine ax_Wp.go (f' := (8, [some (.ref 0), some (.int p0), some (.ref 138), none], [.long x1.toInt64, .int (nI 0), .ref 138])) 1 rfl ?_
    refine ax_Wp.wrL hD rfl rfl (fun _ => rfl) (fun m4 hD => ?_)
    refine ax_Wp.go (f' := (16, [some (.ref 0), some (.int p0), some (.ref 138), none], [.int (nI 0)])) 2 rfl ?_
    obtain rfl := inj hD
    exact ax_Wp.ret rfl ⟨rfl, rfl⟩
  · refine swD hD (fun e hD => ?_) (fun _ hD => ?_)
    · cases e
      refine ax_Wp.callH (f' := (7, [some (.ref 0), some (.int p0), some (.ref 138), none], [.int (nI 0), .ref 138])) (pc2 := 13) (i := 3) rfl rfl (w_96 (d := d + 0) hx) rfl rfl rfl ?_
      refine ax_Wp.go (f' := (14, [some (.ref 0), some (.int p0), some (.ref 138), none], [.int (nI 1)])) 1 rfl ?_
      obtain rfl := inj hD
      exact ax_Wp.ret rfl ⟨rfl, rfl⟩
    cases hD
def D97 (m : dM) (p0 : Int32) : Option (Int32 ⊕ Nat) := cT (D124 p0) m (fun (x1 : Unit) => (gI m 7 4 p0).bind fun (x4 : Int32) => Option.bind ((if x4 = (-1) then some (nI 0) else some (nI 1)) : Option (Int32)) fun (v5 : Int32) => (gB v5).bind fun (b6 : Int32) => some (.inl b6)) (fun (j2 : Nat) (m3 : dM) => some (.inr j2))
set_option maxRecDepth 20000 in
theorem w_97 {X : Nat × (Nat → Int32)} {d : Nat} {m : dM} {p0 : Int32} {r : Int32 ⊕ Nat} (hD : D97 m p0 = some r) : ax_Ev X (d + 7) 97 [.ref 0, .int p0] (stt m) (oT (fun x => some (.int x)) r) (stt (bT m r)) := by
  unfold D97 at hD
  show ax_Wp X (d + 6 + 1) 97 (0, [some (.ref 0), some (.int p0)], []) (stt m) _
  refine ax_Wp.go (f' := (1, [some (.ref 0), some (.int p0)], [.int p0])) 1 rfl ?_
  refine cT.sp hD (fun x1 hx hD => ?_) (fun j2 hx hD => ?_)
  · refine ax_Wp.callE (f' := (4, [some (.ref 0), some (.int p0)], [])) rfl rfl (w_124 (d := d + 0) hx) rfl ?_
    refine ax_Wp.go (f' := (15, [some (.ref 0), some (.int p0)], [.int p0, .ref 7])) 5 rfl ?_
    refine ax_Wp.rdI hD rfl rfl rfl (fun x4 hD => ?_)
    refine ax_Wp.go (f' := (17, [some (.ref 0), some (.int p0)], [.int (-1), .int x4])) 1 rfl ?_
    refine bnd hD (fun v5 hx hD => ?_)
    refine ax_Wp.jn (F := (25, [some (.ref 0), none], [.int v5])) (hh := stt m) ?_ (fun kkv5 => ?_)
    · refine ax_Wp.retB hD rfl (fun b6 hD => ?_)
      obtain rfl := inj hD
      exact ⟨rfl, rfl⟩
    clear hD
    have hD := hx
    clear hx
    refine ax_Wp.brD hD rfl (fun _ hD => ?_) (fun _ hD => ?_)
    · refine ax_Wp.go (f' := (25, [some (.ref 0), some (.int p0)], [.int (nI 0)])) 1 rfl ?_
      obtain rfl := inj hD
      exact ax_Wp.dead kkv5 ⟨.inl rfl, ⟨.inr ⟨rfl, trivial⟩, trivial⟩⟩
    · refine ax_Wp.go (f' := (25, [some (.ref 0), some (.int p0)], [.int (nI 1)])) 2 rfl ?_
      obtain rfl := inj hD
      exact ax_Wp.dead kkv5 ⟨.inl rfl, ⟨.inr ⟨rfl, trivial⟩, trivial⟩⟩
  · obtain rfl := inj hD
    exact ax_Wp.callX (f' := (4, [some (.ref 0), some (.int p0)], [])) rfl rfl (w_124 (d := d + 0) hx) rfl ⟨rfl, rfl⟩
def D266 (m : dM) (p0 : Int32) : Option (Int32 × dM) := cT (D97 m p0) m (fun (x1 : Int32) => Option.bind ((if x1 = (nI 0) then some (0 : Int64) else some (1 : Int64)) : Option (Int64)) fun (v4 : Int64) => (sL m 138 1 (nI 0) v4).bind fun (m5 : dM) => some (nI 0, m5)) (fun (j2 : Nat) (m3 : dM) => if j2 = 0 then some (nI 1, m3) else none)
set_option maxRecDepth 20000 in
theorem w_266 {X : Nat × (Nat → Int32)} {d : Nat} {m : dM} {p0 : Int32} {r : Int32 × dM} (hD : D266 m p0 = some r) : ax_Ev X (d + 8) 266 [.ref 0, .int p0, .ref 138] (stt m) (.inl (some (.int r.1))) (stt r.2) := by
  unfold D266 at hD
  show ax_Wp X (d + 7 + 1) 266 (0, [some (.ref 0), some (.int p0), some (.ref 138), none], []) (stt m) _
  refine ax_Wp.go (f' := (4, [some (.ref 0), some (.int p0), some (.ref 138), none], [.int p0, .ref 0, .int (nI 0), .ref 138])) 4 rfl ?_
  refine cT.sp hD (fun x1 hx hD => ?_) (fun j2 hx hD => ?_)
  · refine ax_Wp.callE (f' := (7, [some (.ref 0), some (.int p0), some (.ref 138), none], [.int (nI 0), .ref 138])) rfl rfl (w_97 (d := d + 0) hx) rfl ?_
    refine bnd hD (fun v4 hx hD => ?_)
    refine ax_Wp.jn (F := (15, [some (.ref 0), none, some (.ref 138), none], [.long v4, .int (nI 0), .ref 138])) (hh := stt m) ?_ (fun kkv4 => ?_)
    · refine ax_Wp.wrL hD rfl rfl (fun _ => rfl) (fun m5 hD => ?_)
      refine ax_Wp.go (f' := (23, [some (.ref 0), none, some (.ref 138), none], [.int (nI 0)])) 2 rfl ?_
      obtain rfl := inj hD
      exact ax_Wp.ret rfl ⟨rfl, rfl⟩
    clear hD
    have hD := hx
    clear hx
    refine ax_Wp.brD hD rfl (fun _ hD => ?_) (fun _ hD => ?_)
    · refine ax_Wp.go (f' := (15, [some (.ref 0), some (.int p0), some (.ref 138), none], [.long (0 : Int64), .int (nI 0), .ref 138])) 1 rfl ?_
      obtain rfl := inj hD
      exact ax_Wp.dead kkv4 ⟨.inl rfl, ⟨.inr ⟨rfl, trivial⟩, ⟨.inl rfl, ⟨.inl rfl, trivial⟩⟩⟩⟩
    · refine ax_Wp.go (f' := (15, [some (.ref 0), some (.int p0), some (.ref 138), none], [.long (1 : Int64), .int (nI 0), .ref 138])) 2 rfl ?_
      obtain rfl := inj hD
      exact ax_Wp.dead kkv4 ⟨.inl rfl, ⟨.inr ⟨rfl, trivial⟩, ⟨.inl rfl, ⟨.inl rfl, trivial⟩⟩⟩⟩
  · refine swD hD (fun e hD => ?_) (fun _ hD => ?_)
    · cases e
      refine ax_Wp.callH (f' := (7, [some (.ref 0), some (.int p0), some (.ref 138), none], [.int (nI 0), .ref 138])) (pc2 := 20) (i := 3) rfl rfl (w_97 (d := d + 0) hx) rfl rfl rfl ?_
      refine ax_Wp.go (f' := (21, [some (.ref 0), some (.int p0), some (.ref 138), none], [.int (nI 1)])) 1 rfl ?_
      obtain rfl := inj hD
      exact ax_Wp.ret rfl ⟨rfl, rfl⟩
    cases hD
def D98 (m : dM) (p0 : Int32) : Option (Int32 ⊕ Nat) := cT (D124 p0) m (fun (x1 : Unit) => (gI m 7 4 p0).bind fun (x4 : Int32) => if x4 = (-1) then some (.inr 2) else (gI m 7 4 p0).bind fun (x5 : Int32) => some (.inl x5)) (fun (j2 : Nat) (m3 : dM) => some (.inr j2))
set_option maxRecDepth 20000 in
theorem w_98 {X : Nat × (Nat → Int32)} {d : Nat} {m : dM} {p0 : Int32} {r : Int32 ⊕ Nat} (hD : D98 m p0 = some r) : ax_Ev X (d + 7) 98 [.ref 0, .int p0] (stt m) (oT (fun x => some (.int x)) r) (stt (bT m r)) := by
  unfold D98 at hD
  show ax_Wp X (d + 6 + 1) 98 (0, [some (.ref 0), some (.int p0)], []) (stt m) _
  refine ax_Wp.go (f' := (1, [some (.ref 0), some (.int p0)], [.int p0])) 1 rfl ?_
  refine cT.sp hD (fun x1 hx hD => ?_) (fun j2 hx hD => ?_)
  · refine ax_Wp.callE (f' := (4, [some (.ref 0), some (.int p0)], [])) rfl rfl (w_124 (d := d + 0) hx) rfl ?_
    refine ax_Wp.go (f' := (15, [some (.ref 0), some (.int p0)], [.int p0, .ref 7])) 5 rfl ?_
    refine ax_Wp.rdI hD rfl rfl rfl (fun x4 hD => ?_)
    refine ax_Wp.go (f' := (17, [some (.ref 0), some (.int p0)], [.int (-1), .int x4])) 1 rfl ?_
    refine ax_Wp.brD hD rfl (fun _ hD => ?_) (fun _ hD => ?_)
    · obtain rfl := inj hD
      exact ax_Wp.thr rfl (ax_six _ rfl) ⟨rfl, rfl⟩
    · refine ax_Wp.go (f' := (41, [some (.ref 0), some (.int p0)], [.int p0, .ref 7])) 5 rfl ?_
      refine ax_Wp.rdI hD rfl rfl rfl (fun x5 hD => ?_)
      obtain rfl := inj hD
      exact ax_Wp.ret rfl ⟨rfl, rfl⟩
  · obtain rfl := inj hD
    exact ax_Wp.callX (f' := (4, [some (.ref 0), some (.int p0)], [])) rfl rfl (w_124 (d := d + 0) hx) rfl ⟨rfl, rfl⟩
def D267 (m : dM) (p0 : Int32) : Option (Int32 × dM) := cT (D98 m p0) m (fun (x1 : Int32) => (sL m 138 1 (nI 0) x1.toInt64).bind fun (m4 : dM) => some (nI 0, m4)) (fun (j2 : Nat) (m3 : dM) => if j2 = 0 then some (nI 1, m3) else if j2 = 2 then some (nI 2, m3) else none)
set_option maxRecDepth 20000 in
theorem w_267 {X : Nat × (Nat → Int32)} {d : Nat} {m : dM} {p0 : Int32} {r : Int32 × dM} (hD : D267 m p0 = some r) : ax_Ev X (d + 8) 267 [.ref 0, .int p0, .ref 138] (stt m) (.inl (some (.int r.1))) (stt r.2) := by
  unfold D267 at hD
  show ax_Wp X (d + 7 + 1) 267 (0, [some (.ref 0), some (.int p0), some (.ref 138), none], []) (stt m) _
  refine ax_Wp.go (f' := (4, [some (.ref 0), some (.int p0), some (.ref 138), none], [.int p0, .ref 0, .int (nI 0), .ref 138])) 4 rfl ?_
  refine cT.sp hD (fun x1 hx hD => ?_) (fun j2 hx hD => ?_)
  · refine ax_Wp.callE (f' := (7, [some (.ref 0), some (.int p0), some (.ref 138), none], [.int (nI 0), .ref 138])) rfl rfl (w_98 (d := d + 0) hx) rfl ?_
    refine ax_Wp.go (f' := (8, [some (.ref 0), some (.int p0), some (.ref 138), none], [.long x1.toInt64, .int (nI 0), .ref 138])) 1 rfl ?_
    refine ax_Wp.wrL hD rfl rfl (fun _ => rfl) (fun m4 hD => ?_)
    refine ax_Wp.go (f' := (19, [some (.ref 0), some (.int p0), some (.ref 138), none], [.int (nI 0)])) 2 rfl ?_
    obtain rfl := inj hD
    exact ax_Wp.ret rfl ⟨rfl, rfl⟩
  · refine swD hD (fun e hD => ?_) (fun _ hD => ?_)
    · cases e
      refine ax_Wp.callH (f' := (7, [some (.ref 0), some (.int p0), some (.ref 138), none], [.int (nI 0), .ref 138])) (pc2 := 13) (i := 3) rfl rfl (w_98 (d := d + 0) hx) rfl rfl rfl ?_
      refine ax_Wp.go (f' := (14, [some (.ref 0), some (.int p0), some (.ref 138), none], [.int (nI 1)])) 1 rfl ?_
      obtain rfl := inj hD
      exact ax_Wp.ret rfl ⟨rfl, rfl⟩
    refine swD hD (fun e hD => ?_) (fun _ hD => ?_)
    · cases e
      refine ax_Wp.callH (f' := (7, [some (.ref 0), some (.int p0), some (.ref 138), none], [.int (nI 0), .ref 138])) (pc2 := 16) (i := 3) rfl rfl (w_98 (d := d + 0) hx) rfl rfl rfl ?_
      refine ax_Wp.go (f' := (17, [some (.ref 0), some (.int p0), some (.ref 138), none], [.int (nI 2)])) 1 rfl ?_
      obtain rfl := inj hD
      exact ax_Wp.ret rfl ⟨rfl, rfl⟩
    cases hD
def D99 (m : dM) (p0 : Int32) : Option (Int32 ⊕ Nat) := cT (D124 p0) m (fun (x1 : Unit) => (gI m 8 4 p0).bind fun (x4 : Int32) => some (.inl x4)) (fun (j2 : Nat) (m3 : dM) => some (.inr j2))
set_option maxRecDepth 20000 in
theorem w_99 {X : Nat × (Nat → Int32)} {d : Nat} {m : dM} {p0 : Int32} {r : Int32 ⊕ Nat} (hD : D99 m p0 = some r) : ax_Ev X (d + 7) 99 [.ref 0, .int p0] (stt m) (oT (fun x => some (.int x)) r) (stt (bT m r)) := by
  unfold D99 at hD
  show ax_Wp X (d + 6 + 1) 99 (0, [some (.ref 0), some (.int p0)], []) (stt m) _
  refine ax_Wp.go (f' := (1, [some (.ref 0), some (.int p0)], [.int p0])) 1 rfl ?_
  refine cT.sp hD (fun x1 hx hD => ?_) (fun j2 hx hD => ?_)
  · refine ax_Wp.callE (f' := (4, [some (.ref 0), some (.int p0)], [])) rfl rfl (w_124 (d := d + 0) hx) rfl ?_
    refine ax_Wp.go (f' := (15, [some (.ref 0), some (.int p0)], [.int p0, .ref 8])) 5 rfl ?_
    refine ax_Wp.rdI hD rfl rfl rfl (fun x4 hD => ?_)
    obtain rfl := inj hD
    exact ax_Wp.ret rfl ⟨rfl, rfl⟩
  · obtain rfl := inj hD
    exact ax_Wp.callX (f' := (4, [some (.ref 0), some (.int p0)], [])) rfl rfl (w_124 (d := d + 0) hx) rfl ⟨rfl, rfl⟩
def D268 (m : dM) (p0 : Int32) : Option (Int32 × dM) := cT (D99 m p0) m (fun (x1 : Int32) => (sL m 138 1 (nI 0) x1.toInt64).bind fun (m4 : dM) => some (nI 0, m4)) (fun (j2 : Nat) (m3 : dM) => if j2 = 0 then some (nI 1, m3) else none)
set_option maxRecDepth 20000 in
theorem w_268 {X : Nat × (Nat → Int32)} {d : Nat} {m : dM} {p0 : Int32} {r : Int32 × dM} (hD : D268 m p0 = some r) : ax_Ev X (d + 8) 268 [.ref 0, .int p0, .ref 138] (stt m) (.inl (some (.int r.1))) (stt r.2) := by
  unfold D268 at hD
  show ax_Wp X (d + 7 + 1) 268 (0, [some (.ref 0), some (.int p0), some (.ref 138), none], []) (stt m) _
  refine ax_Wp.go (f' := (4, [some (.ref 0), some (.int p0), some (.ref 138), none], [.int p0, .ref 0, .int (nI 0), .ref 138])) 4 rfl ?_
  refine cT.sp hD (fun x1 hx hD => ?_) (fun j2 hx hD => ?_)
  · refine ax_Wp.callE (f' := (7, [some (.ref 0), some (.int p0), some (.ref 138), none], [.int (nI 0), .ref 138])) rfl rfl (w_99 (d := d + 0) hx) rfl ?_
    refine ax_Wp.go (f' := (8, [some (.ref 0), some (.int p0), some (.ref 138), none], [.long x1.toInt64, .int (nI 0), .ref 138])) 1 rfl ?_
    refine ax_Wp.wrL hD rfl rfl (fun _ => rfl) (fun m4 hD => ?_)
    refine ax_Wp.go (f' := (16, [some (.ref 0), some (.int p0), some (.ref 138), none], [.int (nI 0)])) 2 rfl ?_
    obtain rfl := inj hD
    exact ax_Wp.ret rfl ⟨rfl, rfl⟩
  · refine swD hD (fun e hD => ?_) (fun _ hD => ?_)
    · cases e
      refine ax_Wp.callH (f' := (7, [some (.ref 0), some (.int p0), some (.ref 138), none], [.int (nI 0), .ref 138])) (pc2 := 13) (i := 3) rfl rfl (w_99 (d := d + 0) hx) rfl rfl rfl ?_
      refine ax_Wp.go (f' := (14, [some (.ref 0), some (.int p0), some (.ref 138), none], [.int (nI 1)])) 1 rfl ?_
      obtain rfl := inj hD
      exact ax_Wp.ret rfl ⟨rfl, rfl⟩
    cases hD
def D100 (m : dM) (p0 : Int32) : Option (Int32 ⊕ Nat) := cT (D124 p0) m (fun (x1 : Unit) => (gI m 9 4 p0).bind fun (x4 : Int32) => some (.inl x4)) (fun (j2 : Nat) (m3 : dM) => some (.inr j2))
set_option maxRecDepth 20000 in
theorem w_100 {X : Nat × (Nat → Int32)} {d : Nat} {m : dM} {p0 : Int32} {r : Int32 ⊕ Nat} (hD : D100 m p0 = some r) : ax_Ev X (d + 7) 100 [.ref 0, .int p0] (stt m) (oT (fun x => some (.int x)) r) (stt (bT m r)) := by
  unfold D100 at hD
  show ax_Wp X (d + 6 + 1) 100 (0, [some (.ref 0), some (.int p0)], []) (stt m) _
  refine ax_Wp.go (f' := (1, [some (.ref 0), some (.int p0)], [.int p0])) 1 rfl ?_
  refine cT.sp hD (fun x1 hx hD => ?_) (fun j2 hx hD => ?_)
  · refine ax_Wp.callE (f' := (4, [some (.ref 0), some (.int p0)], [])) rfl rfl (w_124 (d := d + 0) hx) rfl ?_
    refine ax_Wp.go (f' := (15, [some (.ref 0), some (.int p0)], [.int p0, .ref 9])) 5 rfl ?_
    refine ax_Wp.rdI hD rfl rfl rfl (fun x4 hD => ?_)
    obtain rfl := inj hD
    exact ax_Wp.ret rfl ⟨rfl, rfl⟩
  · obtain rfl := inj hD
    exact ax_Wp.callX (f' := (4, [some (.ref 0), some (.int p0)], [])) rfl rfl (w_124 (d := d + 0) hx) rfl ⟨rfl, rfl⟩
def D269 (m : dM) (p0 : Int32) : Option (Int32 × dM) := cT (D100 m p0) m (fun (x1 : Int32) => (sL m 138 1 (nI 0) x1.toInt64).bind fun (m4 : dM) => some (nI 0, m4)) (fun (j2 : Nat) (m3 : dM) => if j2 = 0 then some (nI 1, m3) else none)
set_option maxRecDepth 20000 in
theorem w_269 {X : Nat × (Nat → Int32)} {d : Nat} {m : dM} {p0 : Int32} {r : Int32 × dM} (hD : D269 m p0 = some r) : ax_Ev X (d + 8) 269 [.ref 0, .int p0, .ref 138] (stt m) (.inl (some (.int r.1))) (stt r.2) := by
  unfold D269 at hD
  show ax_Wp X (d + 7 + 1) 269 (0, [some (.ref 0), some (.int p0), some (.ref 138), none], []) (stt m) _
  refine ax_Wp.go (f' := (4, [some (.ref 0), some (.int p0), some (.ref 138), none], [.int p0, .ref 0, .int (nI 0), .ref 138])) 4 rfl ?_
  refine cT.sp hD (fun x1 hx hD => ?_) (fun j2 hx hD => ?_)
  · refine ax_Wp.callE (f' := (7, [some (.ref 0), some (.int p0), some (.ref 138), none], [.int (nI 0), .ref 138])) rfl rfl (w_100 (d := d + 0) hx) rfl ?_
    refine ax_Wp.go (f' := (8, [some (.ref 0), some (.int p0), some (.ref 138), none], [.long x1.toInt64, .int (nI 0), .ref 138])) 1 rfl ?_
    refine ax_Wp.wrL hD rfl rfl (fun _ => rfl) (fun m4 hD => ?_)
    refine ax_Wp.go (f' := (16, [some (.ref 0), some (.int p0), some (.ref 138), none], [.int (nI 0)])) 2 rfl ?_
    obtain rfl := inj hD
    exact ax_Wp.ret rfl ⟨rfl, rfl⟩
  · refine swD hD (fun e hD => ?_) (fun _ hD => ?_)
    · cases e
      refine ax_Wp.callH (f' := (7, [some (.ref 0), some (.int p0), some (.ref 138), none], [.int (nI 0), .ref 138])) (pc2 := 13) (i := 3) rfl rfl (w_100 (d := d + 0) hx) rfl rfl rfl ?_
      refine ax_Wp.go (f' := (14, [some (.ref 0), some (.int p0), some (.ref 138), none], [.int (nI 1)])) 1 rfl ?_
      obtain rfl := inj hD
      exact ax_Wp.ret rfl ⟨rfl, rfl⟩
    cases hD
def D127 (m : dM) (p0 : Int32) : Option (Unit ⊕ Nat) := (D29 m p0).bind fun (x1 : Int32) => if x1 = (nI 0) then some (.inr 0) else some (.inl ())
set_option maxRecDepth 20000 in
theorem w_127 {X : Nat × (Nat → Int32)} {d : Nat} {m : dM} {p0 : Int32} {r : Unit ⊕ Nat} (hD : D127 m p0 = some r) : ax_Ev X (d + 6) 127 [.ref 0, .int p0] (stt m) (oT (fun (_ : Unit) => none) r) (stt (bT m r)) := by
  unfold D127 at hD
  show ax_Wp X (d + 5 + 1) 127 (0, [some (.ref 0), some (.int p0)], []) (stt m) _
  refine ax_Wp.go (f' := (8, [some (.ref 0), some (.int p0)], [.int p0, .ref 10])) 4 rfl ?_
  refine bnd hD (fun x1 hx hD => ?_)
  refine ax_Wp.callE (f' := (11, [some (.ref 0), some (.int p0)], [])) rfl rfl (w_29 (d := d + 4) hx) rfl ?_
  refine ax_Wp.brD hD rfl (fun _ hD => ?_) (fun _ hD => ?_)
  · obtain rfl := inj hD
    exact ax_Wp.thr rfl (ax_six _ rfl) ⟨rfl, rfl⟩
  · obtain rfl := inj hD
    exact ax_Wp.ret rfl ⟨rfl, rfl⟩
def D31 (m : dM) (p0 : Int32) : Option (Int32) := (D29 m p0).bind fun (x1 : Int32) => Option.bind ((if x1 = (nI 0) then some (nI 0) else (gI m 14 8 p0).bind fun (x3 : Int32) => if (nI 10) ≤ x3 then some (nI 0) else some (nI 1)) : Option (Int32)) fun (v2 : Int32) => (gB v2).bind fun (b4 : Int32) => some b4
set_option maxRecDepth 20000 in
theorem w_31 {X : Nat × (Nat → Int32)} {d : Nat} {m : dM} {p0 : Int32} {r : Int32} (hD : D31 m p0 = some r) : ax_Ev X (d + 2) 31 [.ref 10, .int p0] (stt m) (.inl (some (.int r))) (stt m) := by
  unfold D31 at hD
  show ax_Wp X (d + 1 + 1) 31 (0, [some (.ref 10), some (.int p0)], []) (stt m) _
  refine ax_Wp.go (f' := (2, [some (.ref 10), some (.int p0)], [.int p0, .ref 10])) 2 rfl ?_
  refine bnd hD (fun x1 hx hD => ?_)
  refine ax_Wp.callE (f' := (5, [some (.ref 10), some (.int p0)], [])) rfl rfl (w_29 (d := d + 0) hx) rfl ?_
  refine bnd hD (fun v2 hx hD => ?_)
  refine ax_Wp.jn (F := (24, [some (.ref 10), none], [.int v2])) (hh := stt m) ?_ (fun kkv2 => ?_)
  · refine ax_Wp.retB hD rfl (fun b4 hD => ?_)
    obtain rfl := inj hD
    exact ⟨rfl, rfl⟩
  clear hD
  have hD := hx
  clear hx
  refine ax_Wp.brD hD rfl (fun _ hD => ?_) (fun _ hD => ?_)
  · refine ax_Wp.go (f' := (24, [some (.ref 10), some (.int p0)], [.int (nI 0)])) 1 rfl ?_
    obtain rfl := inj hD
    exact ax_Wp.dead kkv2 ⟨.inl rfl, ⟨.inr ⟨rfl, trivial⟩, trivial⟩⟩
  · refine ax_Wp.go (f' := (13, [some (.ref 10), some (.int p0)], [.int p0, .ref 14])) 3 rfl ?_
    refine ax_Wp.rdI hD rfl rfl rfl (fun x3 hD => ?_)
    refine ax_Wp.go (f' := (16, [some (.ref 10), some (.int p0)], [.int (nI 10), .int x3])) 1 rfl ?_
    refine ax_Wp.brD hD rfl (fun _ hD => ?_) (fun _ hD => ?_)
    · refine ax_Wp.go (f' := (24, [some (.ref 10), some (.int p0)], [.int (nI 0)])) 1 rfl ?_
      obtain rfl := inj hD
      exact ax_Wp.dead kkv2 ⟨.inl rfl, ⟨.inr ⟨rfl, trivial⟩, trivial⟩⟩
    · refine ax_Wp.go (f' := (24, [some (.ref 10), some (.int p0)], [.int (nI 1)])) 2 rfl ?_
      obtain rfl := inj hD
      exact ax_Wp.dead kkv2 ⟨.inl rfl, ⟨.inr ⟨rfl, trivial⟩, trivial⟩⟩
def D102 (m : dM) (p0 : Int32) : Option (Int32 ⊕ Nat) := cT (D127 m p0) m (fun (x1 : Unit) => (D31 m p0).bind fun (x4 : Int32) => (gB x4).bind fun (b5 : Int32) => some (.inl b5)) (fun (j2 : Nat) (m3 : dM) => some (.inr j2))
set_option maxRecDepth 20000 in
theorem w_102 {X : Nat × (Nat → Int32)} {d : Nat} {m : dM} {p0 : Int32} {r : Int32 ⊕ Nat} (hD : D102 m p0 = some r) : ax_Ev X (d + 7) 102 [.ref 0, .int p0] (stt m) (oT (fun x => some (.int x)) r) (stt (bT m r)) := by
  unfold D102 at hD
  show ax_Wp X (d + 6 + 1) 102 (0, [some (.ref 0), some (.int p0)], []) (stt m) _
  refine ax_Wp.go (f' := (2, [some (.ref 0), some (.int p0)], [.int p0, .ref 0])) 2 rfl ?_
  refine cT.sp hD (fun x1 hx hD => ?_) (fun j2 hx hD => ?_)
  · refine ax_Wp.callE (f' := (5, [some (.ref 0), some (.int p0)], [])) rfl rfl (w_127 (d := d + 0) hx) rfl ?_
    refine ax_Wp.go (f' := (13, [some (.ref 0), some (.int p0)], [.int p0, .ref 10])) 4 rfl ?_
    refine bnd hD (fun x4 hx hD => ?_)
    refine ax_Wp.callE (f' := (16, [some (.ref 0), some (.int p0)], [])) rfl rfl (w_31 (d := d + 4) hx) rfl ?_
    refine ax_Wp.retB hD rfl (fun b5 hD => ?_)
    obtain rfl := inj hD
    exact ⟨rfl, rfl⟩
  · obtain rfl := inj hD
    exact ax_Wp.callX (f' := (5, [some (.ref 0), some (.int p0)], [])) rfl rfl (w_127 (d := d + 0) hx) rfl ⟨rfl, rfl⟩
def D270 (m : dM) (p0 : Int32) : Option (Int32 × dM) := cT (D102 m p0) m (fun (x1 : Int32) => Option.bind ((if x1 = (nI 0) then some (0 : Int64) else some (1 : Int64)) : Option (Int64)) fun (v4 : Int64) => (sL m 138 1 (nI 0) v4).bind fun (m5 : dM) => some (nI 0, m5)) (fun (j2 : Nat) (m3 : dM) => if j2 = 0 then some (nI 1, m3) else none)
set_option maxRecDepth 20000 in
theorem w_270 {X : Nat × (Nat → Int32)} {d : Nat} {m : dM} {p0 : Int32} {r : Int32 × dM} (hD : D270 m p0 = some r) : ax_Ev X (d + 8) 270 [.ref 0, .int p0, .ref 138] (stt m) (.inl (some (.int r.1))) (stt r.2) := by
  unfold D270 at hD
  show ax_Wp X (d + 7 + 1) 270 (0, [some (.ref 0), some (.int p0), some (.ref 138), none], []) (stt m) _
  refine ax_Wp.go (f' := (4, [some (.ref 0), some (.int p0), some (.ref 138), none], [.int p0, .ref 0, .int (nI 0), .ref 138])) 4 rfl ?_
  refine cT.sp hD (fun x1 hx hD => ?_) (fun j2 hx hD => ?_)
  · refine ax_Wp.callE (f' := (7, [some (.ref 0), some (.int p0), some (.ref 138), none], [.int (nI 0), .ref 138])) rfl rfl (w_102 (d := d + 0) hx) rfl ?_
    refine bnd hD (fun v4 hx hD => ?_)
    refine ax_Wp.jn (F := (15, [some (.ref 0), none, some (.ref 138), none], [.long v4, .int (nI 0), .ref 138])) (hh := stt m) ?_ (fun kkv4 => ?_)
    · refine ax_Wp.wrL hD rfl rfl (fun _ => rfl) (fun m5 hD => ?_)
      refine ax_Wp.go (f' := (23, [some (.ref 0), none, some (.ref 138), none], [.int (nI 0)])) 2 rfl ?_
      obtain rfl := inj hD
      exact ax_Wp.ret rfl ⟨rfl, rfl⟩
    clear hD
    have hD := hx
    clear hx
    refine ax_Wp.brD hD rfl (fun _ hD => ?_) (fun _ hD => ?_)
    · refine ax_Wp.go (f' := (15, [some (.ref 0), some (.int p0), some (.ref 138), none], [.long (0 : Int64), .int (nI 0), .ref 138])) 1 rfl ?_
      obtain rfl := inj hD
      exact ax_Wp.dead kkv4 ⟨.inl rfl, ⟨.inr ⟨rfl, trivial⟩, ⟨.inl rfl, ⟨.inl rfl, trivial⟩⟩⟩⟩
    · refine ax_Wp.go (f' := (15, [some (.ref 0), some (.int p0), some (.ref 138), none], [.long (1 : Int64), .int (nI 0), .ref 138])) 2 rfl ?_
      obtain rfl := inj hD
      exact ax_Wp.dead kkv4 ⟨.inl rfl, ⟨.inr ⟨rfl, trivial⟩, ⟨.inl rfl, ⟨.inl rfl, trivial⟩⟩⟩⟩
  · refine swD hD (fun e hD => ?_) (fun _ hD => ?_)
    · cases e
      refine ax_Wp.callH (f' := (7, [some (.ref 0), some (.int p0), some (.ref 138), none], [.int (nI 0), .ref 138])) (pc2 := 20) (i := 3) rfl rfl (w_102 (d := d + 0) hx) rfl rfl rfl ?_
      refine ax_Wp.go (f' := (21, [some (.ref 0), some (.int p0), some (.ref 138), none], [.int (nI 1)])) 1 rfl ?_
      obtain rfl := inj hD
      exact ax_Wp.ret rfl ⟨rfl, rfl⟩
    cases hD
