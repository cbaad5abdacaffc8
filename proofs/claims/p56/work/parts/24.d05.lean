/-! WHAT METHODS DO, printed of their bytecode -/
def D28_10_54 (m : dM) : Option (dM) := (kI m 55 11 8).bind fun (m1 : dM) => (kI m1 56 12 8).bind fun (m2 : dM) => (kI m2 57 13 8).bind fun (m3 : dM) => (kI m3 58 14 8).bind fun (m4 : dM) => (fI m4 10 4 (rI m4 54 4)).bind fun (m5 : dM) => some m5
set_option maxRecDepth 20000 in
theorem w_28_10_54 {X : Nat × (Nat → Int32)} {d : Nat} {m : dM} {r : dM} (hD : D28_10_54 m = some r) : ax_Ev X (d + 1) 18 [.ref 10, .ref 54] (stt m) (.inl none) (stt r) := by
  unfold D28_10_54 at hD
  show ax_Wp X (d + 0 + 1) 18 (0, [some (.ref 10), some (.ref 54)], []) (stt m) _
  refine ax_Wp.go (f' := (12, [some (.ref 10), some (.ref 54)], [.int (nI 8), .int (nI 0), .ref 11, .int (nI 0), .ref 55])) 7 rfl ?_
  refine ax_Wp.cpI (S' := []) hD rfl rfl (fun _ => rfl) (fun m1 hD => ?_)
  refine ax_Wp.go (f' := (27, [some (.ref 10), some (.ref 54)], [.int (nI 8), .int (nI 0), .ref 12, .int (nI 0), .ref 56])) 7 rfl ?_
  refine ax_Wp.cpI (S' := []) hD rfl rfl (fun _ => rfl) (fun m2 hD => ?_)
  refine ax_Wp.go (f' := (42, [some (.ref 10), some (.ref 54)], [.int (nI 8), .int (nI 0), .ref 13, .int (nI 0), .ref 57])) 7 rfl ?_
  refine ax_Wp.cpI (S' := []) hD rfl rfl (fun _ => rfl) (fun m3 hD => ?_)
  refine ax_Wp.go (f' := (57, [some (.ref 10), some (.ref 54)], [.int (nI 8), .int (nI 0), .ref 14, .int (nI 0), .ref 58])) 7 rfl ?_
  refine ax_Wp.cpI (S' := []) hD rfl rfl (fun _ => rfl) (fun m4 hD => ?_)
  refine ax_Wp.go (f' := (65, [some (.ref 10), some (.ref 54)], [.int (rI m4 54 4), .ref 10])) 3 rfl ?_
  refine ax_Wp.ptI hD rfl rfl rfl (fun m5 hD => ?_)
  obtain rfl := inj hD
  exact ax_Wp.ret rfl ⟨rfl, rfl⟩
def D22_15_59 (m : dM) : Option (dM) := (kL m 60 16 61).bind fun (m1 : dM) => (fI m1 15 1 (rI m1 59 1)).bind fun (m2 : dM) => some m2
set_option maxRecDepth 20000 in
theorem w_22_15_59 {X : Nat × (Nat → Int32)} {d : Nat} {m : dM} {r : dM} (hD : D22_15_59 m = some r) : ax_Ev X (d + 1) 12 [.ref 15, .ref 59] (stt m) (.inl none) (stt r) := by
  unfold D22_15_59 at hD
  show ax_Wp X (d + 0 + 1) 12 (0, [some (.ref 15), some (.ref 59)], []) (stt m) _
  refine ax_Wp.go (f' := (12, [some (.ref 15), some (.ref 59)], [.int (nI 61), .int (nI 0), .ref 16, .int (nI 0), .ref 60])) 7 rfl ?_
  refine ax_Wp.cpL (S' := []) hD rfl rfl (fun _ => rfl) (fun m1 hD => ?_)
  refine ax_Wp.go (f' := (20, [some (.ref 15), some (.ref 59)], [.int (rI m1 59 1), .ref 15])) 3 rfl ?_
  refine ax_Wp.ptI hD rfl rfl rfl (fun m2 hD => ?_)
  obtain rfl := inj hD
  exact ax_Wp.ret rfl ⟨rfl, rfl⟩
def D41_1_45 (m : dM) : Option (dM) := (D58_2_46 m).bind fun (r1 : dM) => (D1_5_49 r1).bind fun (r2 : dM) => (D28_10_54 r2).bind fun (r3 : dM) => (D22_15_59 r3).bind fun (r4 : dM) => (kI r4 61 17 2).bind fun (m5 : dM) => (fI m5 1 5 (rI m5 45 5)).bind fun (m6 : dM) => (fI m6 1 6 (rI m6 45 6)).bind fun (m7 : dM) => (fI m7 1 7 (rI m7 45 7)).bind fun (m8 : dM) => (fI m8 1 8 (rI m8 45 8)).bind fun (m9 : dM) => (fI m9 1 9 (rI m9 45 9)).bind fun (m10 : dM) => some m10
set_option maxRecDepth 20000 in
theorem w_41_1_45 {X : Nat × (Nat → Int32)} {d : Nat} {m : dM} {r : dM} (hD : D41_1_45 m = some r) : ax_Ev X (d + 2) 31 [.ref 1, .ref 45] (stt m) (.inl none) (stt r) := by
  unfold D41_1_45 at hD
  show ax_Wp X (d + 1 + 1) 31 (0, [some (.ref 1), some (.ref 45)], []) (stt m) _
  refine ax_Wp.go (f' := (8, [some (.ref 1), some (.ref 45)], [.ref 46, .ref 2])) 4 rfl ?_
  refine bnd hD (fun r1 hx hD => ?_)
  refine ax_Wp.callE (f' := (11, [some (.ref 1), some (.ref 45)], [])) rfl rfl (w_58_2_46 (d := d + 0) hx) rfl ?_
  refine ax_Wp.go (f' := (19, [some (.ref 1), some (.ref 45)], [.ref 49, .ref 5])) 4 rfl ?_
  refine bnd hD (fun r2 hx hD => ?_)
  refine ax_Wp.callE (f' := (22, [some (.ref 1), some (.ref 45)], [])) rfl rfl (w_1_5_49 (d := d + 0) hx) rfl ?_
  refine ax_Wp.go (f' := (30, [some (.ref 1), some (.ref 45)], [.ref 54, .ref 10])) 4 rfl ?_
  refine bnd hD (fun r3 hx hD => ?_)
  refine ax_Wp.callE (f' := (33, [some (.ref 1), some (.ref 45)], [])) rfl rfl (w_28_10_54 (d := d + 0) hx) rfl ?_
  refine ax_Wp.go (f' := (41, [some (.ref 1), some (.ref 45)], [.ref 59, .ref 15])) 4 rfl ?_
  refine bnd hD (fun r4 hx hD => ?_)
  refine ax_Wp.callE (f' := (44, [some (.ref 1), some (.ref 45)], [])) rfl rfl (w_22_15_59 (d := d + 0) hx) rfl ?_
  refine ax_Wp.go (f' := (55, [some (.ref 1), some (.ref 45)], [.int (nI 2), .int (nI 0), .ref 17, .int (nI 0), .ref 61])) 7 rfl ?_
  refine ax_Wp.cpI (S' := []) hD rfl rfl (fun _ => rfl) (fun m5 hD => ?_)
  refine ax_Wp.go (f' := (63, [some (.ref 1), some (.ref 45)], [.int (rI m5 45 5), .ref 1])) 3 rfl ?_
  refine ax_Wp.ptI hD rfl rfl rfl (fun m6 hD => ?_)
  refine ax_Wp.go (f' := (71, [some (.ref 1), some (.ref 45)], [.int (rI m6 45 6), .ref 1])) 3 rfl ?_
  refine ax_Wp.ptI hD rfl rfl rfl (fun m7 hD => ?_)
  refine ax_Wp.go (f' := (79, [some (.ref 1), some (.ref 45)], [.int (rI m7 45 7), .ref 1])) 3 rfl ?_
  refine ax_Wp.ptI hD rfl rfl rfl (fun m8 hD => ?_)
  refine ax_Wp.go (f' := (87, [some (.ref 1), some (.ref 45)], [.int (rI m8 45 8), .ref 1])) 3 rfl ?_
  refine ax_Wp.ptI hD rfl rfl rfl (fun m9 hD => ?_)
  refine ax_Wp.go (f' := (95, [some (.ref 1), some (.ref 45)], [.int (rI m9 45 9), .ref 1])) 3 rfl ?_
  refine ax_Wp.ptI hD rfl rfl rfl (fun m10 hD => ?_)
  obtain rfl := inj hD
  exact ax_Wp.ret rfl ⟨rfl, rfl⟩
def D58_2_63 (m : dM) : Option (dM) := (kI m 64 3 24).bind fun (m1 : dM) => (kI m1 65 4 24).bind fun (m2 : dM) => (fI m2 2 2 (rI m2 63 2)).bind fun (m3 : dM) => (fI m3 2 3 (rI m3 63 3)).bind fun (m4 : dM) => (fI m4 2 4 (rI m4 63 4)).bind fun (m5 : dM) => some m5
set_option maxRecDepth 20000 in
theorem w_58_2_63 {X : Nat × (Nat → Int32)} {d : Nat} {m : dM} {r : dM} (hD : D58_2_63 m = some r) : ax_Ev X (d + 1) 46 [.ref 2, .ref 63] (stt m) (.inl none) (stt r) := by
  unfold D58_2_63 at hD
  show ax_Wp X (d + 0 + 1) 46 (0, [some (.ref 2), some (.ref 63)], []) (stt m) _
  refine ax_Wp.go (f' := (12, [some (.ref 2), some (.ref 63)], [.int (nI 24), .int (nI 0), .ref 3, .int (nI 0), .ref 64])) 7 rfl ?_
  refine ax_Wp.cpI (S' := []) hD rfl rfl (fun _ => rfl) (fun m1 hD => ?_)
  refine ax_Wp.go (f' := (27, [some (.ref 2), some (.ref 63)], [.int (nI 24), .int (nI 0), .ref 4, .int (nI 0), .ref 65])) 7 rfl ?_
  refine ax_Wp.cpI (S' := []) hD rfl rfl (fun _ => rfl) (fun m2 hD => ?_)
  refine ax_Wp.go (f' := (35, [some (.ref 2), some (.ref 63)], [.int (rI m2 63 2), .ref 2])) 3 rfl ?_
  refine ax_Wp.ptI hD rfl rfl rfl (fun m3 hD => ?_)
  refine ax_Wp.go (f' := (43, [some (.ref 2), some (.ref 63)], [.int (rI m3 63 3), .ref 2])) 3 rfl ?_
  refine ax_Wp.ptI hD rfl rfl rfl (fun m4 hD => ?_)
  refine ax_Wp.go (f' := (51, [some (.ref 2), some (.ref 63)], [.int (rI m4 63 4), .ref 2])) 3 rfl ?_
  refine ax_Wp.ptI hD rfl rfl rfl (fun m5 hD => ?_)
  obtain rfl := inj hD
  exact ax_Wp.ret rfl ⟨rfl, rfl⟩
def D1_5_66 (m : dM) : Option (dM) := (kI m 67 6 4).bind fun (m1 : dM) => (kI m1 68 7 4).bind fun (m2 : dM) => (kI m2 69 8 4).bind fun (m3 : dM) => (kI m3 70 9 4).bind fun (m4 : dM) => (fI m4 5 4 (rI m4 66 4)).bind fun (m5 : dM) => some m5
set_option maxRecDepth 20000 in
theorem w_1_5_66 {X : Nat × (Nat → Int32)} {d : Nat} {m : dM} {r : dM} (hD : D1_5_66 m = some r) : ax_Ev X (d + 1) 1 [.ref 5, .ref 66] (stt m) (.inl none) (stt r) := by
  unfold D1_5_66 at hD
  show ax_Wp X (d + 0 + 1) 1 (0, [some (.ref 5), some (.ref 66)], []) (stt m) _
  refine ax_Wp.go (f' := (11, [some (.ref 5), some (.ref 66)], [.int (nI 4), .int (nI 0), .ref 6, .int (nI 0), .ref 67])) 7 rfl ?_
  refine ax_Wp.cpI (S' := []) hD rfl rfl (fun _ => rfl) (fun m1 hD => ?_)
  refine ax_Wp.go (f' := (25, [some (.ref 5), some (.ref 66)], [.int (nI 4), .int (nI 0), .ref 7, .int (nI 0), .ref 68])) 7 rfl ?_
  refine ax_Wp.cpI (S' := []) hD rfl rfl (fun _ => rfl) (fun m2 hD => ?_)
  refine ax_Wp.go (f' := (39, [some (.ref 5), some (.ref 66)], [.int (nI 4), .int (nI 0), .ref 8, .int (nI 0), .ref 69])) 7 rfl ?_
  refine ax_Wp.cpI (S' := []) hD rfl rfl (fun _ => rfl) (fun m3 hD => ?_)
  refine ax_Wp.go (f' := (53, [some (.ref 5), some (.ref 66)], [.int (nI 4), .int (nI 0), .ref 9, .int (nI 0), .ref 70])) 7 rfl ?_
  refine ax_Wp.cpI (S' := []) hD rfl rfl (fun _ => rfl) (fun m4 hD => ?_)
  refine ax_Wp.go (f' := (61, [some (.ref 5), some (.ref 66)], [.int (rI m4 66 4), .ref 5])) 3 rfl ?_
  refine ax_Wp.ptI hD rfl rfl rfl (fun m5 hD => ?_)
  obtain rfl := inj hD
  exact ax_Wp.ret rfl ⟨rfl, rfl⟩
def D28_10_71 (m : dM) : Option (dM) := (kI m 72 11 8).bind fun (m1 : dM) => (kI m1 73 12 8).bind fun (m2 : dM) => (kI m2 74 13 8).bind fun (m3 : dM) => (kI m3 75 14 8).bind fun (m4 : dM) => (fI m4 10 4 (rI m4 71 4)).bind fun (m5 : dM) => some m5
set_option maxRecDepth 20000 in
theorem w_28_10_71 {X : Nat × (Nat → Int32)} {d : Nat} {m : dM} {r : dM} (hD : D28_10_71 m = some r) : ax_Ev X (d + 1) 18 [.ref 10, .ref 71] (stt m) (.inl none) (stt r) := by
  unfold D28_10_71 at hD
  show ax_Wp X (d + 0 + 1) 18 (0, [some (.ref 10), some (.ref 71)], []) (stt m) _
  refine ax_Wp.go (f' := (12, [some (.ref 10), some (.ref 71)], [.int (nI 8), .int (nI 0), .ref 11, .int (nI 0), .ref 72])) 7 rfl ?_
  refine ax_Wp.cpI (S' := []) hD rfl rfl (fun _ => rfl) (fun m1 hD => ?_)
  refine ax_Wp.go (f' := (27, [some (.ref 10), some (.ref 71)], [.int (nI 8), .int (nI 0), .ref 12, .int (nI 0), .ref 73])) 7 rfl ?_
  refine ax_Wp.cpI (S' := []) hD rfl rfl (fun _ => rfl) (fun m2 hD => ?_)
  refine ax_Wp.go (f' := (42, [some (.ref 10), some (.ref 71)], [.int (nI 8), .int (nI 0), .ref 13, .int (nI 0), .ref 74])) 7 rfl ?_
  refine ax_Wp.cpI (S' := []) hD rfl rfl (fun _ => rfl) (fun m3 hD => ?_)
  refine ax_Wp.go (f' := (57, [some (.ref 10), some (.ref 71)], [.int (nI 8), .int (nI 0), .ref 14, .int (nI 0), .ref 75])) 7 rfl ?_
  refine ax_Wp.cpI (S' := []) hD rfl rfl (fun _ => rfl) (fun m4 hD => ?_)
  refine ax_Wp.go (f' := (65, [some (.ref 10), some (.ref 71)], [.int (rI m4 71 4), .ref 10])) 3 rfl ?_
  refine ax_Wp.ptI hD rfl rfl rfl (fun m5 hD => ?_)
  obtain rfl := inj hD
  exact ax_Wp.ret rfl ⟨rfl, rfl⟩
def D22_15_76 (m : dM) : Option (dM) := (kL m 77 16 61).bind fun (m1 : dM) => (fI m1 15 1 (rI m1 76 1)).bind fun (m2 : dM) => some m2
set_option maxRecDepth 20000 in
theorem w_22_15_76 {X : Nat × (Nat → Int32)} {d : Nat} {m : dM} {r : dM} (hD : D22_15_76 m = some r) : ax_Ev X (d + 1) 12 [.ref 15, .ref 76] (stt m) (.inl none) (stt r) := by
  unfold D22_15_76 at hD
  show ax_Wp X (d + 0 + 1) 12 (0, [some (.ref 15), some (.ref 76)], []) (stt m) _
  refine ax_Wp.go (f' := (12, [some (.ref 15), some (.ref 76)], [.int (nI 61), .int (nI 0), .ref 16, .int (nI 0), .ref 77])) 7 rfl ?_
  refine ax_Wp.cpL (S' := []) hD rfl rfl (fun _ => rfl) (fun m1 hD => ?_)
  refine ax_Wp.go (f' := (20, [some (.ref 15), some (.ref 76)], [.int (rI m1 76 1), .ref 15])) 3 rfl ?_
  refine ax_Wp.ptI hD rfl rfl rfl (fun m2 hD => ?_)
  obtain rfl := inj hD
  exact ax_Wp.ret rfl ⟨rfl, rfl⟩
def D41_1_62 (m : dM) : Option (dM) := (D58_2_63 m).bind fun (r1 : dM) => (D1_5_66 r1).bind fun (r2 : dM) => (D28_10_71 r2).bind fun (r3 : dM) => (D22_15_76 r3).bind fun (r4 : dM) => (kI r4 78 17 2).bind fun (m5 : dM) => (fI m5 1 5 (rI m5 62 5)).bind fun (m6 : dM) => (fI m6 1 6 (rI m6 62 6)).bind fun (m7 : dM) => (fI m7 1 7 (rI m7 62 7)).bind fun (m8 : dM) => (fI m8 1 8 (rI m8 62 8)).bind fun (m9 : dM) => (fI m9 1 9 (rI m9 62 9)).bind fun (m10 : dM) => some m10
set_option maxRecDepth 20000 in
theorem w_41_1_62 {X : Nat × (Nat → Int32)} {d : Nat} {m : dM} {r : dM} (hD : D41_1_62 m = some r) : ax_Ev X (d + 2) 31 [.ref 1, .ref 62] (stt m) (.inl none) (stt r) := by
  unfold D41_1_62 at hD
  show ax_Wp X (d + 1 + 1) 31 (0, [some (.ref 1), some (.ref 62)], []) (stt m) _
  refine ax_Wp.go (f' := (8, [some (.ref 1), some (.ref 62)], [.ref 63, .ref 2])) 4 rfl ?_
  refine bnd hD (fun r1 hx hD => ?_)
  refine ax_Wp.callE (f' := (11, [some (.ref 1), some (.ref 62)], [])) rfl rfl (w_58_2_63 (d := d + 0) hx) rfl ?_
  refine ax_Wp.go (f' := (19, [some (.ref 1), some (.ref 62)], [.ref 66, .ref 5])) 4 rfl ?_
  refine bnd hD (fun r2 hx hD => ?_)
  refine ax_Wp.callE (f' := (22, [some (.ref 1), some (.ref 62)], [])) rfl rfl (w_1_5_66 (d := d + 0) hx) rfl ?_
  refine ax_Wp.go (f' := (30, [some (.ref 1), some (.ref 62)], [.ref 71, .ref 10])) 4 rfl ?_
  refine bnd hD (fun r3 hx hD => ?_)
  refine ax_Wp.callE (f' := (33, [some (.ref 1), some (.ref 62)], [])) rfl rfl (w_28_10_71 (d := d + 0) hx) rfl ?_
  refine ax_Wp.go (f' := (41, [some (.ref 1), some (.ref 62)], [.ref 76, .ref 15])) 4 rfl ?_
  refine bnd hD (fun r4 hx hD => ?_)
  refine ax_Wp.callE (f' := (44, [some (.ref 1), some (.ref 62)], [])) rfl rfl (w_22_15_76 (d := d + 0) hx) rfl ?_
  refine ax_Wp.go (f' := (55, [some (.ref 1), some (.ref 62)], [.int (nI 2), .int (nI 0), .ref 17, .int (nI 0), .ref 78])) 7 rfl ?_
  refine ax_Wp.cpI (S' := []) hD rfl rfl (fun _ => rfl) (fun m5 hD => ?_)
  refine ax_Wp.go (f' := (63, [some (.ref 1), some (.ref 62)], [.int (rI m5 62 5), .ref 1])) 3 rfl ?_
  refine ax_Wp.ptI hD rfl rfl rfl (fun m6 hD => ?_)
  refine ax_Wp.go (f' := (71, [some (.ref 1), some (.ref 62)], [.int (rI m6 62 6), .ref 1])) 3 rfl ?_
  refine ax_Wp.ptI hD rfl rfl rfl (fun m7 hD => ?_)
  refine ax_Wp.go (f' := (79, [some (.ref 1), some (.ref 62)], [.int (rI m7 62 7), .ref 1])) 3 rfl ?_
  refine ax_Wp.ptI hD rfl rfl rfl (fun m8 hD => ?_)
  refine ax_Wp.go (f' := (87, [some (.ref 1), some (.ref 62)], [.int (rI m8 62 8), .ref 1])) 3 rfl ?_
  refine ax_Wp.ptI hD rfl rfl rfl (fun m9 hD => ?_)
  refine ax_Wp.go (f' := (95, [some (.ref 1), some (.ref 62)], [.int (rI m9 62 9), .ref 1])) 3 rfl ?_
  refine ax_Wp.ptI hD rfl rfl rfl (fun m10 hD => ?_)
  obtain rfl := inj hD
  exact ax_Wp.ret rfl ⟨rfl, rfl⟩
def D58_2_80 (m : dM) : Option (dM) := (kI m 81 3 24).bind fun (m1 : dM) => (kI m1 82 4 24).bind fun (m2 : dM) => (fI m2 2 2 (rI m2 80 2)).bind fun (m3 : dM) => (fI m3 2 3 (rI m3 80 3)).bind fun (m4 : dM) => (fI m4 2 4 (rI m4 80 4)).bind fun (m5 : dM) => some m5
set_option maxRecDepth 20000 in
theorem w_58_2_80 {X : Nat × (Nat → Int32)} {d : Nat} {m : dM} {r : dM} (hD : D58_2_80 m = some r) : ax_Ev X (d + 1) 46 [.ref 2, .ref 80] (stt m) (.inl none) (stt r) := by
  unfold D58_2_80 at hD
  show ax_Wp X (d + 0 + 1) 46 (0, [some (.ref 2), some (.ref 80)], []) (stt m) _
  refine ax_Wp.go (f' := (12, [some (.ref 2), some (.ref 80)], [.int (nI 24), .int (nI 0), .ref 3, .int (nI 0), .ref 81])) 7 rfl ?_
  refine ax_Wp.cpI (S' := []) hD rfl rfl (fun _ => rfl) (fun m1 hD => ?_)
  refine ax_Wp.go (f' := (27, [some (.ref 2), some (.ref 80)], [.int (nI 24), .int (nI 0), .ref 4, .int (nI 0), .ref 82])) 7 rfl ?_
  refine ax_Wp.cpI (S' := []) hD rfl rfl (fun _ => rfl) (fun m2 hD => ?_)
  refine ax_Wp.go (f' := (35, [some (.ref 2), some (.ref 80)], [.int (rI m2 80 2), .ref 2])) 3 rfl ?_
  refine ax_Wp.ptI hD rfl rfl rfl (fun m3 hD => ?_)
  refine ax_Wp.go (f' := (43, [some (.ref 2), some (.ref 80)], [.int (rI m3 80 3), .ref 2])) 3 rfl ?_
  refine ax_Wp.ptI hD rfl rfl rfl (fun m4 hD => ?_)
  refine ax_Wp.go (f' := (51, [some (.ref 2), some (.ref 80)], [.int (rI m4 80 4), .ref 2])) 3 rfl ?_
  refine ax_Wp.ptI hD rfl rfl rfl (fun m5 hD => ?_)
  obtain rfl := inj hD
  exact ax_Wp.ret rfl ⟨rfl, rfl⟩
def D1_5_83 (m : dM) : Option (dM) := (kI m 84 6 4).bind fun (m1 : dM) => (kI m1 85 7 4).bind fun (m2 : dM) => (kI m2 86 8 4).bind fun (m3 : dM) => (kI m3 87 9 4).bind fun (m4 : dM) => (fI m4 5 4 (rI m4 83 4)).bind fun (m5 : dM) => some m5
set_option maxRecDepth 20000 in
theorem w_1_5_83 {X : Nat × (Nat → Int32)} {d : Nat} {m : dM} {r : dM} (hD : D1_5_83 m = some r) : ax_Ev X (d + 1) 1 [.ref 5, .ref 83] (stt m) (.inl none) (stt r) := by
  unfold D1_5_83 at hD
  show ax_Wp X (d + 0 + 1) 1 (0, [some (.ref 5), some (.ref 83)], []) (stt m) _
  refine ax_Wp.go (f' := (11, [some (.ref 5), some (.ref 83)], [.int (nI 4), .int (nI 0), .ref 6, .int (nI 0), .ref 84])) 7 rfl ?_
  refine ax_Wp.cpI (S' := []) hD rfl rfl (fun _ => rfl) (fun m1 hD => ?_)
  refine ax_Wp.go (f' := (25, [some (.ref 5), some (.ref 83)], [.int (nI 4), .int (nI 0), .ref 7, .int (nI 0), .ref 85])) 7 rfl ?_
  refine ax_Wp.cpI (S' := []) hD rfl rfl (fun _ => rfl) (fun m2 hD => ?_)
  refine ax_Wp.go (f' := (39, [some (.ref 5), some (.ref 83)], [.int (nI 4), .int (nI 0), .ref 8, .int (nI 0), .ref 86])) 7 rfl ?_
  refine ax_Wp.cpI (S' := []) hD rfl rfl (fun _ => rfl) (fun m3 hD => ?_)
  refine ax_Wp.go (f' := (53, [some (.ref 5), some (.ref 83)], [.int (nI 4), .int (nI 0), .ref 9, .int (nI 0), .ref 87])) 7 rfl ?_
  refine ax_Wp.cpI (S' := []) hD rfl rfl (fun _ => rfl) (fun m4 hD => ?_)
  refine ax_Wp.go (f' := (61, [some (.ref 5), some (.ref 83)], [.int (rI m4 83 4), .ref 5])) 3 rfl ?_
  refine ax_Wp.ptI hD rfl rfl rfl (fun m5 hD => ?_)
  obtain rfl := inj hD
  exact ax_Wp.ret rfl ⟨rfl, rfl⟩
def D28_10_88 (m : dM) : Option (dM) := (kI m 89 11 8).bind fun (m1 : dM) => (kI m1 90 12 8).bind fun (m2 : dM) => (kI m2 91 13 8).bind fun (m3 : dM) => (kI m3 92 14 8).bind fun (m4 : dM) => (fI m4 10 4 (rI m4 88 4)).bind fun (m5 : dM) => some m5
set_option maxRecDepth 20000 in
theorem w_28_10_88 {X : Nat × (Nat → Int32)} {d : Nat} {m : dM} {r : dM} (hD : D28_10_88 m = some r) : ax_Ev X (d + 1) 18 [.ref 10, .ref 88] (stt m) (.inl none) (stt r) := by
  unfold D28_10_88 at hD
  show ax_Wp X (d + 0 + 1) 18 (0, [some (.ref 10), some (.ref 88)], []) (stt m) _
  refine ax_Wp.go (f' := (12, [some (.ref 10), some (.ref 88)], [.int (nI 8), .int (nI 0), .ref 11, .int (nI 0), .ref 89])) 7 rfl ?_
  refine ax_Wp.cpI (S' := []) hD rfl rfl (fun _ => rfl) (fun m1 hD => ?_)
  refine ax_Wp.go (f' := (27, [some (.ref 10), some (.ref 88)], [.int (nI 8), .int (nI 0), .ref 12, .int (nI 0), .ref 90])) 7 rfl ?_
  refine ax_Wp.cpI (S' := []) hD rfl rfl (fun _ => rfl) (fun m2 hD => ?_)
  refine ax_Wp.go (f' := (42, [some (.ref 10), some (.ref 88)], [.int (nI 8), .int (nI 0), .ref 13, .int (nI 0), .ref 91])) 7 rfl ?_
  refine ax_Wp.cpI (S' := []) hD rfl rfl (fun _ => rfl) (fun m3 hD => ?_)
  refine ax_Wp.go (f' := (57, [some (.ref 10), some (.ref 88)], [.int (nI 8), .int (nI 0), .ref 14, .int (nI 0), .ref 92])) 7 rfl ?_
  refine ax_Wp.cpI (S' := []) hD rfl rfl (fun _ => rfl) (fun m4 hD => ?_)
  refine ax_Wp.go (f' := (65, [some (.ref 10), some (.ref 88)], [.int (rI m4 88 4), .ref 10])) 3 rfl ?_
  refine ax_Wp.ptI hD rfl rfl rfl (fun m5 hD => ?_)
  obtain rfl := inj hD
  exact ax_Wp.ret rfl ⟨rfl, rfl⟩
def D22_15_93 (m : dM) : Option (dM) := (kL m 94 16 61).bind fun (m1 : dM) => (fI m1 15 1 (rI m1 93 1)).bind fun (m2 : dM) => some m2
set_option maxRecDepth 20000 in
theorem w_22_15_93 {X : Nat × (Nat → Int32)} {d : Nat} {m : dM} {r : dM} (hD : D22_15_93 m = some r) : ax_Ev X (d + 1) 12 [.ref 15, .ref 93] (stt m) (.inl none) (stt r) := by
  unfold D22_15_93 at hD
  show ax_Wp X (d + 0 + 1) 12 (0, [some (.ref 15), some (.ref 93)], []) (stt m) _
  refine ax_Wp.go (f' := (12, [some (.ref 15), some (.ref 93)], [.int (nI 61), .int (nI 0), .ref 16, .int (nI 0), .ref 94])) 7 rfl ?_
  refine ax_Wp.cpL (S' := []) hD rfl rfl (fun _ => rfl) (fun m1 hD => ?_)
  refine ax_Wp.go (f' := (20, [some (.ref 15), some (.ref 93)], [.int (rI m1 93 1), .ref 15])) 3 rfl ?_
  refine ax_Wp.ptI hD rfl rfl rfl (fun m2 hD => ?_)
  obtain rfl := inj hD
  exact ax_Wp.ret rfl ⟨rfl, rfl⟩
def D41_1_79 (m : dM) : Option (dM) := (D58_2_80 m).bind fun (r1 : dM) => (D1_5_83 r1).bind fun (r2 : dM) => (D28_10_88 r2).bind fun (r3 : dM) => (D22_15_93 r3).bind fun (r4 : dM) => (kI r4 95 17 2).bind fun (m5 : dM) => (fI m5 1 5 (rI m5 79 5)).bind fun (m6 : dM) => (fI m6 1 6 (rI m6 79 6)).bind fun (m7 : dM) => (fI m7 1 7 (rI m7 79 7)).bind fun (m8 : dM) => (fI m8 1 8 (rI m8 79 8)).bind fun (m9 : dM) => (fI m9 1 9 (rI m9 79 9)).bind fun (m10 : dM) => some m10
set_option maxRecDepth 20000 in
theorem w_41_1_79 {X : Nat × (Nat → Int32)} {d : Nat} {m : dM} {r : dM} (hD : D41_1_79 m = some r) : ax_Ev X (d + 2) 31 [.ref 1, .ref 79] (stt m) (.inl none) (stt r) := by
  unfold D41_1_79 at hD
  show ax_Wp X (d + 1 + 1) 31 (0, [some (.ref 1), some (.ref 79)], []) (stt m) _
  refine ax_Wp.go (f' := (8, [some (.ref 1), some (.ref 79)], [.ref 80, .ref 2])) 4 rfl ?_
  refine bnd hD (fun r1 hx hD => ?_)
  refine ax_Wp.callE (f' := (11, [some (.ref 1), some (.ref 79)], [])) rfl rfl (w_58_2_80 (d := d + 0) hx) rfl ?_
  refine ax_Wp.go (f' := (19, [some (.ref 1), some (.ref 79)], [.ref 83, .ref 5])) 4 rfl ?_
  refine bnd hD (fun r2 hx hD => ?_)
  refine ax_Wp.callE (f' := (22, [some (.ref 1), some (.ref 79)], [])) rfl rfl (w_1_5_83 (d := d + 0) hx) rfl ?_
  refine ax_Wp.go (f' := (30, [some (.ref 1), some (.ref 79)], [.ref 88, .ref 10])) 4 rfl ?_
  refine bnd hD (fun r3 hx hD => ?_)
  refine ax_Wp.callE (f' := (33, [some (.ref 1), some (.ref 79)], [])) rfl rfl (w_28_10_88 (d := d + 0) hx) rfl ?_
  refine ax_Wp.go (f' := (41, [some (.ref 1), some (.ref 79)], [.ref 93, .ref 15])) 4 rfl ?_
  refine bnd hD (fun r4 hx hD => ?_)
  refine ax_Wp.callE (f' := (44, [some (.ref 1), some (.ref 79)], [])) rfl rfl (w_22_15_93 (d := d + 0) hx) rfl ?_
  refine ax_Wp.go (f' := (55, [some (.ref 1), some (.ref 79)], [.int (nI 2), .int (nI 0), .ref 17, .int (nI 0), .ref 95])) 7 rfl ?_
  refine ax_Wp.cpI (S' := []) hD rfl rfl (fun _ => rfl) (fun m5 hD => ?_)
  refine ax_Wp.go (f' := (63, [some (.ref 1), some (.ref 79)], [.int (rI m5 79 5), .ref 1])) 3 rfl ?_
  refine ax_Wp.ptI hD rfl rfl rfl (fun m6 hD => ?_)
  refine ax_Wp.go (f' := (71, [some (.ref 1), some (.ref 79)], [.int (rI m6 79 6), .ref 1])) 3 rfl ?_
  refine ax_Wp.ptI hD rfl rfl rfl (fun m7 hD => ?_)
  refine ax_Wp.go (f' := (79, [some (.ref 1), some (.ref 79)], [.int (rI m7 79 7), .ref 1])) 3 rfl ?_
  refine ax_Wp.ptI hD rfl rfl rfl (fun m8 hD => ?_)
  refine ax_Wp.go (f' := (87, [some (.ref 1), some (.ref 79)], [.int (rI m8 79 8), .ref 1])) 3 rfl ?_
  refine ax_Wp.ptI hD rfl rfl rfl (fun m9 hD => ?_)
  refine ax_Wp.go (f' := (95, [some (.ref 1), some (.ref 79)], [.int (rI m9 79 9), .ref 1])) 3 rfl ?_
  refine ax_Wp.ptI hD rfl rfl rfl (fun m10 hD => ?_)
  obtain rfl := inj hD
  exact ax_Wp.ret rfl ⟨rfl, rfl⟩
def D58_2_97 (m : dM) : Option (dM) := (kI m 98 3 24).bind fun (m1 : dM) => (kI m1 99 4 24).bind fun (m2 : dM) => (fI m2 2 2 (rI m2 97 2)).bind fun (m3 : dM) => (fI m3 2 3 (rI m3 97 3)).bind fun (m4 : dM) => (fI m4 2 4 (rI m4 97 4)).bind fun (m5 : dM) => some m5
set_option maxRecDepth 20000 in
theorem w_58_2_97 {X : Nat × (Nat → Int32)} {d : Nat} {m : dM} {r : dM} (hD : D58_2_97 m = some r) : ax_Ev X (d + 1) 46 [.ref 2, .ref 97] (stt m) (.inl none) (stt r) := by
  unfold D58_2_97 at hD
  show ax_Wp X (d + 0 + 1) 46 (0, [some (.ref 2), some (.ref 97)], []) (stt m) _
  refine ax_Wp.go (f' := (12, [some (.ref 2), some (.ref 97)], [.int (nI 24), .int (nI 0), .ref 3, .int (nI 0), .ref 98])) 7 rfl ?_
  refine ax_Wp.cpI (S' := []) hD rfl rfl (fun _ => rfl) (fun m1 hD => ?_)
  refine ax_Wp.go (f' := (27, [some (.ref 2), some (.ref 97)], [.int (nI 24), .int (nI 0), .ref 4, .int (nI 0), .ref 99])) 7 rfl ?_
  refine ax_Wp.cpI (S' := []) hD rfl rfl (fun _ => rfl) (fun m2 hD => ?_)
  refine ax_Wp.go (f' := (35, [some (.ref 2), some (.ref 97)], [.int (rI m2 97 2), .ref 2])) 3 rfl ?_
  refine ax_Wp.ptI hD rfl rfl rfl (fun m3 hD => ?_)
  refine ax_Wp.go (f' := (43, [some (.ref 2), some (.ref 97)], [.int (rI m3 97 3), .ref 2])) 3 rfl ?_
  refine ax_Wp.ptI hD rfl rfl rfl (fun m4 hD => ?_)
  refine ax_Wp.go (f' := (51, [some (.ref 2), some (.ref 97)], [.int (rI m4 97 4), .ref 2])) 3 rfl ?_
  refine ax_Wp.ptI hD rfl rfl rfl (fun m5 hD => ?_)
  obtain rfl := inj hD
  exact ax_Wp.ret rfl ⟨rfl, rfl⟩
def D1_5_100 (m : dM) : Option (dM) := (kI m 101 6 4).bind fun (m1 : dM) => (kI m1 102 7 4).bind fun (m2 : dM) => (kI m2 103 8 4).bind fun (m3 : dM) => (kI m3 104 9 4).bind fun (m4 : dM) => (fI m4 5 4 (rI m4 100 4)).bind fun (m5 : dM) => some m5
set_option maxRecDepth 20000 in
theorem w_1_5_100 {X : Nat × (Nat → Int32)} {d : Nat} {m : dM} {r : dM} (hD : D1_5_100 m = some r) : ax_Ev X (d + 1) 1 [.ref 5, .ref 100] (stt m) (.inl none) (stt r) := by
  unfold D1_5_100 at hD
  show ax_Wp X (d + 0 + 1) 1 (0, [some (.ref 5), some (.ref 100)], []) (stt m) _
  refine ax_Wp.go (f' := (11, [some (.ref 5), some (.ref 100)], [.int (nI 4), .int (nI 0), .ref 6, .int (nI 0), .ref 101])) 7 rfl ?_
  refine ax_Wp.cpI (S' := []) hD rfl rfl (fun _ => rfl) (fun m1 hD => ?_)
  refine ax_Wp.go (f' := (25, [some (.ref 5), some (.ref 100)], [.int (nI 4), .int (nI 0), .ref 7, .int (nI 0), .ref 102])) 7 rfl ?_
  refine ax_Wp.cpI (S' := []) hD rfl rfl (fun _ => rfl) (fun m2 hD => ?_)
  refine ax_Wp.go (f' := (39, [some (.ref 5), some (.ref 100)], [.int (nI 4), .int (nI 0), .ref 8, .int (nI 0), .ref 103])) 7 rfl ?_
  refine ax_Wp.cpI (S' := []) hD rfl rfl (fun _ => rfl) (fun m3 hD => ?_)
  refine ax_Wp.go (f' := (53, [some (.ref 5), some (.ref 100)], [.int (nI 4), .int (nI 0), .ref 9, .int (nI 0), .ref 104])) 7 rfl ?_
  refine ax_Wp.cpI (S' := []) hD rfl rfl (fun _ => rfl) (fun m4 hD => ?_)
  refine ax_Wp.go (f' := (61, [some (.ref 5), some (.ref 100)], [.int (rI m4 100 4), .ref 5])) 3 rfl ?_
  refine ax_Wp.ptI hD rfl rfl rfl (fun m5 hD => ?_)
  obtain rfl := inj hD
  exact ax_Wp.ret rfl ⟨rfl, rfl⟩
def D28_10_105 (m : dM) : Option (dM) := (kI m 106 11 8).bind fun (m1 : dM) => (kI m1 107 12 8).bind fun (m2 : dM) => (kI m2 108 13 8).bind fun (m3 : dM) => (kI m3 109 14 8).bind fun (m4 : dM) => (fI m4 10 4 (rI m4 105 4)).bind fun (m5 : dM) => some m5
set_option maxRecDepth 20000 in
theorem w_28_10_105 {X : Nat × (Nat → Int32)} {d : Nat} {m : dM} {r : dM} (hD : D28_10_105 m = some r) : ax_Ev X (d + 1) 18 [.ref 10, .ref 105] (stt m) (.inl none) (stt r) := by
  unfold D28_10_105 at hD
  show ax_Wp X (d + 0 + 1) 18 (0, [some (.ref 10), some (.ref 105)], []) (stt m) _
  refine ax_Wp.go (f' := (12, [some (.ref 10), some (.ref 105)], [.int (nI 8), .int (nI 0), .ref 11, .int (nI 0), .ref 106])) 7 rfl ?_
  refine ax_Wp.cpI (S' := []) hD rfl rfl (fun _ => rfl) (fun m1 hD => ?_)
  refine ax_Wp.go (f' := (27, [some (.ref 10), some (.ref 105)], [.int (nI 8), .int (nI 0), .ref 12, .int (nI 0), .ref 107])) 7 rfl ?_
  refine ax_Wp.cpI (S' := []) hD rfl rfl (fun _ => rfl) (fun m2 hD => ?_)
  refine ax_Wp.go (f' := (42, [some (.ref 10), some (.ref 105)], [.int (nI 8), .int (nI 0), .ref 13, .int (nI 0), .ref 108])) 7 rfl ?_
  refine ax_Wp.cpI (S' := []) hD rfl rfl (fun _ => rfl) (fun m3 hD => ?_)
  refine ax_Wp.go (f' := (57, [some (.ref 10), some (.ref 105)], [.int (nI 8), .int (nI 0), .ref 14, .int (nI 0), .ref 109])) 7 rfl ?_
  refine ax_Wp.cpI (S' := []) hD rfl rfl (fun _ => rfl) (fun m4 hD => ?_)
  refine ax_Wp.go (f' := (65, [some (.ref 10), some (.ref 105)], [.int (rI m4 105 4), .ref 10])) 3 rfl ?_
  refine ax_Wp.ptI hD rfl rfl rfl (fun m5 hD => ?_)
  obtain rfl := inj hD
  exact ax_Wp.ret rfl ⟨rfl, rfl⟩
def D22_15_110 (m : dM) : Option (dM) := (kL m 111 16 61).bind fun (m1 : dM) => (fI m1 15 1 (rI m1 110 1)).bind fun (m2 : dM) => some m2
set_option maxRecDepth 20000 in
theorem w_22_15_110 {X : Nat × (Nat → Int32)} {d : Nat} {m : dM} {r : dM} (hD : D22_15_110 m = some r) : ax_Ev X (d + 1) 12 [.ref 15, .ref 110] (stt m) (.inl none) (stt r) := by
  unfold D22_15_110 at hD
  show ax_Wp X (d + 0 + 1) 12 (0, [some (.ref 15), some (.ref 110)], []) (stt m) _
  refine ax_Wp.go (f' := (12, [some (.ref 15), some (.ref 110)], [.int (nI 61), .int (nI 0), .ref 16, .int (nI 0), .ref 111])) 7 rfl ?_
  refine ax_Wp.cpL (S' := []) hD rfl rfl (fun _ => rfl) (fun m1 hD => ?_)
  refine ax_Wp.go (f' := (20, [some (.ref 15), some (.ref 110)], [.int (rI m1 110 1), .ref 15])) 3 rfl ?_
  refine ax_Wp.ptI hD rfl rfl rfl (fun m2 hD => ?_)
  obtain rfl := inj hD
  exact ax_Wp.ret rfl ⟨rfl, rfl⟩
def D41_1_96 (m : dM) : Option (dM) := (D58_2_97 m).bind fun (r1 : dM) => (D1_5_100 r1).bind fun (r2 : dM) => (D28_10_105 r2).bind fun (r3 : dM) => (D22_15_110 r3).bind fun (r4 : dM) => (kI r4 112 17 2).bind fun (m5 : dM) => (fI m5 1 5 (rI m5 96 5)).bind fun (m6 : dM) => (fI m6 1 6 (rI m6 96 6)).bind fun (m7 : dM) => (fI m7 1 7 (rI m7 96 7)).bind fun (m8 : dM) => (fI m8 1 8 (rI m8 96 8)).bind fun (m9 : dM) => (fI m9 1 9 (rI m9 96 9)).bind fun (m10 : dM) => some m10
set_option maxRecDepth 20000 in
theorem w_41_1_96 {X : Nat × (Nat → Int32)} {d : Nat} {m : dM} {r : dM} (hD : D41_1_96 m = some r) : ax_Ev X (d + 2) 31 [.ref 1, .ref 96] (stt m) (.inl none) (stt r) := by
  unfold D41_1_96 at hD
  show ax_Wp X (d + 1 + 1) 31 (0, [some (.ref 1), some (.ref 96)], []) (stt m) _
  refine ax_Wp.go (f' := (8, [some (.ref 1), some (.ref 96)], [.ref 97, .ref 2])) 4 rfl ?_
  refine bnd hD (fun r1 hx hD => ?_)
  refine ax_Wp.callE (f' := (11, [some (.ref 1), some (.ref 96)], [])) rfl rfl (w_58_2_97 (d := d + 0) hx) rfl ?_
  refine ax_Wp.go (f' := (19, [some (.ref 1), some (.ref 96)], [.ref 100, .ref 5])) 4 rfl ?_
  refine bnd hD (fun r2 hx hD => ?_)
  refine ax_Wp.callE (f' := (22, [some (.ref 1), some (.ref 96)], [])) rfl rfl (w_1_5_100 (d := d + 0) hx) rfl ?_
  refine ax_Wp.go (f' := (30, [some (.ref 1), some (.ref 96)], [.ref 105, .ref 10])) 4 rfl ?_
  refine bnd hD (fun r3 hx hD => ?_)
  refine ax_Wp.callE (f' := (33, [some (.ref 1), some (.ref 96)], [])) rfl rfl (w_28_10_105 (d := d + 0) hx) rfl ?_
  refine ax_Wp.go (f' := (41, [some (.ref 1), some (.ref 96)], [.ref 110, .ref 15])) 4 rfl ?_
  refine bnd hD (fun r4 hx hD => ?_)
  refine ax_Wp.callE (f' := (44, [some (.ref 1), some (.ref 96)], [])) rfl rfl (w_22_15_110 (d := d + 0) hx) rfl ?_
  refine ax_Wp.go (f' := (55, [some (.ref 1), some (.ref 96)], [.int (nI 2), .int (nI 0), .ref 17, .int (nI 0), .ref 112])) 7 rfl ?_
  refine ax_Wp.cpI (S' := []) hD rfl rfl (fun _ => rfl) (fun m5 hD => ?_)
  refine ax_Wp.go (f' := (63, [some (.ref 1), some (.ref 96)], [.int (rI m5 96 5), .ref 1])) 3 rfl ?_
  refine ax_Wp.ptI hD rfl rfl rfl (fun m6 hD => ?_)
  refine ax_Wp.go (f' := (71, [some (.ref 1), some (.ref 96)], [.int (rI m6 96 6), .ref 1])) 3 rfl ?_
  refine ax_Wp.ptI hD rfl rfl rfl (fun m7 hD => ?_)
  refine ax_Wp.go (f' := (79, [some (.ref 1), some (.ref 96)], [.int (rI m7 96 7), .ref 1])) 3 rfl ?_
  refine ax_Wp.ptI hD rfl rfl rfl (fun m8 hD => ?_)
  refine ax_Wp.go (f' := (87, [some (.ref 1), some (.ref 96)], [.int (rI m8 96 8), .ref 1])) 3 rfl ?_
  refine ax_Wp.ptI hD rfl rfl rfl (fun m9 hD => ?_)
  refine ax_Wp.go (f' := (95, [some (.ref 1), some (.ref 96)], [.int (rI m9 96 9), .ref 1])) 3 rfl ?_
  refine ax_Wp.ptI hD rfl rfl rfl (fun m10 hD => ?_)
  obtain rfl := inj hD
  exact ax_Wp.ret rfl ⟨rfl, rfl⟩
def D58_2_114 (m : dM) : Option (dM) := (kI m 115 3 24).bind fun (m1 : dM) => (kI m1 116 4 24).bind fun (m2 : dM) => (fI m2 2 2 (rI m2 114 2)).bind fun (m3 : dM) => (fI m3 2 3 (rI m3 114 3)).bind fun (m4 : dM) => (fI m4 2 4 (rI m4 114 4)).bind fun (m5 : dM) => some m5
set_option maxRecDepth 20000 in
theorem w_58_2_114 {X : Nat × (Nat → Int32)} {d : Nat} {m : dM} {r : dM} (hD : D58_2_114 m = some r) : ax_Ev X (d + 1) 46 [.ref 2, .ref 114] (stt m) (.inl none) (stt r) := by
  unfold D58_2_114 at hD
  show ax_Wp X (d + 0 + 1) 46 (0, [some (.ref 2), some (.ref 114)], []) (stt m) _
  refine ax_Wp.go (f' := (12, [some (.ref 2), some (.ref 114)], [.int (nI 24), .int (nI 0), .ref 3, .int (nI 0), .ref 115])) 7 rfl ?_
  refine ax_Wp.cpI (S' := []) hD rfl rfl (fun _ => rfl) (fun m1 hD => ?_)
  refine ax_Wp.go (f' := (27, [some (.ref 2), some (.ref 114)], [.int (nI 24), .int (nI 0), .ref 4, .int (nI 0), .ref 116])) 7 rfl ?_
  refine ax_Wp.cpI (S' := []) hD rfl rfl (fun _ => rfl) (fun m2 hD => ?_)
  refine ax_Wp.go (f' := (35, [some (.ref 2), some (.ref 114)], [.int (rI m2 114 2), .ref 2])) 3 rfl ?_
  refine ax_Wp.ptI hD rfl rfl rfl (fun m3 hD => ?_)
  refine ax_Wp.go (f' := (43, [some (.ref 2), some (.ref 114)], [.int (rI m3 114 3), .ref 2])) 3 rfl ?_
  refine ax_Wp.ptI hD rfl rfl rfl (fun m4 hD => ?_)
  refine ax_Wp.go (f' := (51, [some (.ref 2), some (.ref 114)], [.int (rI m4 114 4), .ref 2])) 3 rfl ?_
  refine ax_Wp.ptI hD rfl rfl rfl (fun m5 hD => ?_)
  obtain rfl := inj hD
  exact ax_Wp.ret rfl ⟨rfl, rfl⟩
def D1_5_117 (m : dM) : Option (dM) := (kI m 118 6 4).bind fun (m1 : dM) => (kI m1 119 7 4).bind fun (m2 : dM) => (kI m2 120 8 4).bind fun (m3 : dM) => (kI m3 121 9 4).bind fun (m4 : dM) => (fI m4 5 4 (rI m4 117 4)).bind fun (m5 : dM) => some m5
set_option maxRecDepth 20000 in
theorem w_1_5_117 {X : Nat × (Nat → Int32)} {d : Nat} {m : dM} {r : dM} (hD : D1_5_117 m = some r) : ax_Ev X (d + 1) 1 [.ref 5, .ref 117] (stt m) (.inl none) (stt r) := by
  unfold D1_5_117 at hD
  show ax_Wp X (d + 0 + 1) 1 (0, [some (.ref 5), some (.ref 117)], []) (stt m) _
  refine ax_Wp.go (f' := (11, [some (.ref 5), some (.ref 117)], [.int (nI 4), .int (nI 0), .ref 6, .int (nI 0), .ref 118])) 7 rfl ?_
  refine ax_Wp.cpI (S' := []) hD rfl rfl (fun _ => rfl) (fun m1 hD => ?_)
  refine ax_Wp.go (f' := (25, [some (.ref 5), some (.ref 117)], [.int (nI 4), .int (nI 0), .ref 7, .int (nI 0), .ref 119])) 7 rfl ?_
  refine ax_Wp.cpI (S' := []) hD rfl rfl (fun _ => rfl) (fun m2 hD => ?_)
  refine ax_Wp.go (f' := (39, [some (.ref 5), some (.ref 117)], [.int (nI 4), .int (nI 0), .ref 8, .int (nI 0), .ref 120])) 7 rfl ?_
  refine ax_Wp.cpI (S' := []) hD rfl rfl (fun _ => rfl) (fun m3 hD => ?_)
  refine ax_Wp.go (f' := (53, [some (.ref 5), some (.ref 117)], [.int (nI 4), .int (nI 0), .ref 9, .int (nI 0), .ref 121])) 7 rfl ?_
  refine ax_Wp.cpI (S' := []) hD rfl rfl (fun _ => rfl) (fun m4 hD => ?_)
  refine ax_Wp.go (f' := (61, [some (.ref 5), some (.ref 117)], [.int (rI m4 117 4), .ref 5])) 3 rfl ?_
  refine ax_Wp.ptI hD rfl rfl rfl (fun m5 hD => ?_)
  obtain rfl := inj hD
  exact ax_Wp.ret rfl ⟨rfl, rfl⟩
def D28_10_122 (m : dM) : Option (dM) := (kI m 123 11 8).bind fun (m1 : dM) => (kI m1 124 12 8).bind fun (m2 : dM) => (kI m2 125 13 8).bind fun (m3 : dM) => (kI m3 126 14 8).bind fun (m4 : dM) => (fI m4 10 4 (rI m4 122 4)).bind fun (m5 : dM) => some m5
set_option maxRecDepth 20000 in
theorem w_28_10_122 {X : Nat × (Nat → Int32)} {d : Nat} {m : dM} {r : dM} (hD : D28_10_122 m = some r) : ax_Ev X (d + 1) 18 [.ref 10, .ref 122] (stt m) (.inl none) (stt r) := by
  unfold D28_10_122 at hD
  show ax_Wp X (d + 0 + 1) 18 (0, [some (.ref 10), some (.ref 122)], []) (stt m) _
  refine ax_Wp.go (f' := (12, [some (.ref 10), some (.ref 122)], [.int (nI 8), .int (nI 0), .ref 11, .int (nI 0), .ref 123])) 7 rfl ?_
  refine ax_Wp.cpI (S' := []) hD rfl rfl (fun _ => rfl) (fun m1 hD => ?_)
  refine ax_Wp.go (f' := (27, [some (.ref 10), some (.ref 122)], [.int (nI 8), .int (nI 0), .ref 12, .int (nI 0), .ref 124])) 7 rfl ?_
  refine ax_Wp.cpI (S' := []) hD rfl rfl (fun _ => rfl) (fun m2 hD => ?_)
  refine ax_Wp.go (f' := (42, [some (.ref 10), some (.ref 122)], [.int (nI 8), .int (nI 0), .ref 13, .int (nI 0), .ref 125])) 7 rfl ?_
  refine ax_Wp.cpI (S' := []) hD rfl rfl (fun _ => rfl) (fun m3 hD => ?_)
  refine ax_Wp.go (f' := (57, [some (.ref 10), some (.ref 122)], [.int (nI 8), .int (nI 0), .ref 14, .int (nI 0), .ref 126])) 7 rfl ?_
  refine ax_Wp.cpI (S' := []) hD rfl rfl (fun _ => rfl) (fun m4 hD => ?_)
  refine ax_Wp.go (f' := (65, [some (.ref 10), some (.ref 122)], [.int (rI m4 122 4), .ref 10])) 3 rfl ?_
  refine ax_Wp.ptI hD rfl rfl rfl (fun m5 hD => ?_)
  obtain rfl := inj hD
  exact ax_Wp.ret rfl ⟨rfl, rfl⟩
def D22_15_127 (m : dM) : Option (dM) := (kL m 128 16 61).bind fun (m1 : dM) => (fI m1 15 1 (rI m1 127 1)).bind fun (m2 : dM) => some m2
set_option maxRecDepth 20000 in
theorem w_22_15_127 {X : Nat × (Nat → Int32)} {d : Nat} {m : dM} {r : dM} (hD : D22_15_127 m = some r) : ax_Ev X (d + 1) 12 [.ref 15, .ref 127] (stt m) (.inl none) (stt r) := by
  unfold D22_15_127 at hD
  show ax_Wp X (d + 0 + 1) 12 (0, [some (.ref 15), some (.ref 127)], []) (stt m) _
  refine ax_Wp.go (f' := (12, [some (.ref 15), some (.ref 127)], [.int (nI 61), .int (nI 0), .ref 16, .int (nI 0), .ref 128])) 7 rfl ?_
  refine ax_Wp.cpL (S' := []) hD rfl rfl (fun _ => rfl) (fun m1 hD => ?_)
  refine ax_Wp.go (f' := (20, [some (.ref 15), some (.ref 127)], [.int (rI m1 127 1), .ref 15])) 3 rfl ?_
  refine ax_Wp.ptI hD rfl rfl rfl (fun m2 hD => ?_)
  obtain rfl := inj hD
  exact ax_Wp.ret rfl ⟨rfl, rfl⟩
def D41_1_113 (m : dM) : Option (dM) := (D58_2_114 m).bind fun (r1 : dM) => (D1_5_117 r1).bind fun (r2 : dM) => (D28_10_122 r2).bind fun (r3 : dM) => (D22_15_127 r3).bind fun (r4 : dM) => (kI r4 129 17 2).bind fun (m5 : dM) => (fI m5 1 5 (rI m5 113 5)).bind fun (m6 : dM) => (fI m6 1 6 (rI m6 113 6)).bind fun (m7 : dM) => (fI m7 1 7 (rI m7 113 7)).bind fun (m8 : dM) => (fI m8 1 8 (rI m8 113 8)).bind fun (m9 : dM) => (fI m9 1 9 (rI m9 113 9)).bind fun (m10 : dM) => some m10
set_option maxRecDepth 20000 in
theorem w_41_1_113 {X : Nat × (Nat → Int32)} {d : Nat} {m : dM} {r : dM} (hD : D41_1_113 m = some r) : ax_Ev X (d + 2) 31 [.ref 1, .ref 113] (stt m) (.inl none) (stt r) := by
  unfold D41_1_113 at hD
  show ax_Wp X (d + 1 + 1) 31 (0, [some (.ref 1), some (.ref 113)], []) (stt m) _
  refine ax_Wp.go (f' := (8, [some (.ref 1), some (.ref 113)], [.ref 114, .ref 2])) 4 rfl ?_
  refine bnd hD (fun r1 hx hD => ?_)
  refine ax_Wp.callE (f' := (11, [some (.ref 1), some (.ref 113)], [])) rfl rfl (w_58_2_114 (d := d + 0) hx) rfl ?_
  refine ax_Wp.go (f' := (19, [some (.ref 1), some (.ref 113)], [.ref 117, .ref 5])) 4 rfl ?_
  refine bnd hD (fun r2 hx hD => ?_)
  refine ax_Wp.callE (f' := (22, [some (.ref 1), some (.ref 113)], [])) rfl rfl (w_1_5_117 (d := d + 0) hx) rfl ?_
  refine ax_Wp.go (f' := (30, [some (.ref 1), some (.ref 113)], [.ref 122, .ref 10])) 4 rfl ?_
  refine bnd hD (fun r3 hx hD => ?_)
  refine ax_Wp.callE (f' := (33, [some (.ref 1), some (.ref 113)], [])) rfl rfl (w_28_10_122 (d := d + 0) hx) rfl ?_
  refine ax_Wp.go (f' := (41, [some (.ref 1), some (.ref 113)], [.ref 127, .ref 15])) 4 rfl ?_
  refine bnd hD (fun r4 hx hD => ?_)
  refine ax_Wp.callE (f' := (44, [some (.ref 1), some (.ref 113)], [])) rfl rfl (w_22_15_127 (d := d + 0) hx) rfl ?_
  refine ax_Wp.go (f' := (55, [some (.ref 1), some (.ref 113)], [.int (nI 2), .int (nI 0), .ref 17, .int (nI 0), .ref 129])) 7 rfl ?_
  refine ax_Wp.cpI (S' := []) hD rfl rfl (fun _ => rfl) (fun m5 hD => ?_)
  refine ax_Wp.go (f' := (63, [some (.ref 1), some (.ref 113)], [.int (rI m5 113 5), .ref 1])) 3 rfl ?_
  refine ax_Wp.ptI hD rfl rfl rfl (fun m6 hD => ?_)
  refine ax_Wp.go (f' := (71, [some (.ref 1), some (.ref 113)], [.int (rI m6 113 6), .ref 1])) 3 rfl ?_
  refine ax_Wp.ptI hD rfl rfl rfl (fun m7 hD => ?_)
  refine ax_Wp.go (f' := (79, [some (.ref 1), some (.ref 113)], [.int (rI m7 113 7), .ref 1])) 3 rfl ?_
  refine ax_Wp.ptI hD rfl rfl rfl (fun m8 hD => ?_)
  refine ax_Wp.go (f' := (87, [some (.ref 1), some (.ref 113)], [.int (rI m8 113 8), .ref 1])) 3 rfl ?_
  refine ax_Wp.ptI hD rfl rfl rfl (fun m9 hD => ?_)
  refine ax_Wp.go (f' := (95, [some (.ref 1), some (.ref 113)], [.int (rI m9 113 9), .ref 1])) 3 rfl ?_
  refine ax_Wp.ptI hD rfl rfl rfl (fun m10 hD => ?_)
  obtain rfl := inj hD
  exact ax_Wp.ret rfl ⟨rfl, rfl⟩
def D41_1_S (m : dM) (x : Nat) : Option dM := if x = 45 then D41_1_45 m else if x = 62 then D41_1_62 m else if x = 79 then D41_1_79 m else if x = 96 then D41_1_96 m else if x = 113 then D41_1_113 m else none
theorem w_41_1_S {X : Nat × (Nat → Int32)} {d : Nat} {m : dM} {x : Nat} {r : dM} (hD : D41_1_S m x = some r) : ax_Ev X (d + 2) 31 [.ref 1, .ref x] (stt m) (.inl none) (stt r) := by
  unfold D41_1_S at hD
  refine swD hD (fun e hD => ?_) (fun _ hD => ?_)
  · cases e; exact w_41_1_45 hD
  refine swD hD (fun e hD => ?_) (fun _ hD => ?_)
  · cases e; exact w_41_1_62 hD
  refine swD hD (fun e hD => ?_) (fun _ hD => ?_)
  · cases e; exact w_41_1_79 hD
  refine swD hD (fun e hD => ?_) (fun _ hD => ?_)
  · cases e; exact w_41_1_96 hD
  refine swD hD (fun e hD => ?_) (fun _ hD => ?_)
  · cases e; exact w_41_1_113 hD
  cases hD
theorem w_41_1_S_is {m : dM} {x : Nat} {r : dM} (hD : D41_1_S m x = some r) : x = 45 ∨ x = 62 ∨ x = 79 ∨ x = 96 ∨ x = 113 := by
  unfold D41_1_S at hD
  refine swD hD (fun e hD => ?_) (fun _ hD => ?_)
  · exact .inl e
  refine swD hD (fun e hD => ?_) (fun _ hD => ?_)
  · exact .inr (.inl e)
  refine swD hD (fun e hD => ?_) (fun _ hD => ?_)
  · exact .inr (.inr (.inl e))
  refine swD hD (fun e hD => ?_) (fun _ hD => ?_)
  · exact .inr (.inr (.inr (.inl e)))
  refine swD hD (fun e hD => ?_) (fun _ hD => ?_)
  · exact .inr (.inr (.inr (.inr (e))))
  cases hD
def D86 (m : dM) : Option ((Int32 ⊕ Nat) × dM) := if (nI 0) < (rI m 0 6) then (fI m 0 6 ((rI m 0 6) - (nI 1))).bind fun (m1 : dM) => (gR m1 (rI m1 0 6)).bind fun (x2 : Nat) => (D41_1_S m1 x2).bind fun (r3 : dM) => some (.inl (rI r3 0 6), r3) else some (.inr 2, (bump m))
set_option maxRecDepth 20000 in
theorem w_86 {X : Nat × (Nat → Int32)} {d : Nat} {m : dM} {r : (Int32 ⊕ Nat) × dM} (hD : D86 m = some r) : ax_Ev X (d + 6) 67 [.ref 0] (stt m) (oT (fun x => some (.int x)) r.1) (stt r.2) := by
  unfold D86 at hD
  show ax_Wp X (d + 5 + 1) 67 (0, [some (.ref 0)], []) (stt m) _
  refine ax_Wp.go (f' := (4, [some (.ref 0)], [.int (rI m 0 6)])) 2 rfl ?_
  refine ax_Wp.brD hD rfl (fun _ hD => ?_) (fun _ hD => ?_)
  · refine ax_Wp.go (f' := (24, [some (.ref 0)], [.int ((rI m 0 6) - (nI 1)), .ref 0])) 5 rfl ?_
    refine ax_Wp.ptI hD rfl rfl rfl (fun m1 hD => ?_)
    refine ax_Wp.go (f' := (39, [some (.ref 0)], [.int (rI m1 0 6), .ref 18, .ref 1])) 6 rfl ?_
    refine ax_Wp.rdR hD rfl (fun x2 hD => ?_)
    refine bnd hD (fun r3 hx hD => ?_)
    refine ax_Wp.callE (f' := (43, [some (.ref 0)], [])) rfl rfl (w_41_1_S (d := d + 3) hx) rfl ?_
    refine ax_Wp.go (f' := (47, [some (.ref 0)], [.int (rI r3 0 6)])) 2 rfl ?_
    obtain rfl := inj hD
    exact ax_Wp.ret rfl ⟨rfl, rfl⟩
  · obtain rfl := inj hD
    exact ax_Wp.thr rfl (ax_six _ rfl) ⟨rfl, rfl⟩
def D89 (m : dM) : Option (Int32) := some (rI m 0 6)
set_option maxRecDepth 20000 in
theorem w_89 {X : Nat × (Nat → Int32)} {d : Nat} {m : dM} {r : Int32} (hD : D89 m = some r) : ax_Ev X (d + 1) 68 [.ref 0] (stt m) (.inl (some (.int r))) (stt m) := by
  unfold D89 at hD
  show ax_Wp X (d + 0 + 1) 68 (0, [some (.ref 0)], []) (stt m) _
  refine ax_Wp.go (f' := (4, [some (.ref 0)], [.int (rI m 0 6)])) 2 rfl ?_
  obtain rfl := inj hD
  exact ax_Wp.ret rfl ⟨rfl, rfl⟩
def D100 (m : dM) (p0 : Int32) : Option (Int32 ⊕ Nat) := cT (D124 p0) m (fun (x1 : Unit) => (gI m 9 4 p0).bind fun (x4 : Int32) => some (.inl x4)) (fun (j2 : Nat) (m3 : dM) => some (.inr j2))
set_option maxRecDepth 20000 in
theorem w_100 {X : Nat × (Nat → Int32)} {d : Nat} {m : dM} {p0 : Int32} {r : Int32 ⊕ Nat} (hD : D100 m p0 = some r) : ax_Ev X (d + 7) 79 [.ref 0, .int p0] (stt m) (oT (fun x => some (.int x)) r) (stt (bT m r)) := by
  unfold D100 at hD
  show ax_Wp X (d + 6 + 1) 79 (0, [some (.ref 0), some (.int p0)], []) (stt m) _
  refine ax_Wp.go (f' := (1, [some (.ref 0), some (.int p0)], [.int p0])) 1 rfl ?_
  refine cT.sp hD (fun x1 hx hD => ?_) (fun j2 hx hD => ?_)
  · refine ax_Wp.callE (f' := (4, [some (.ref 0), some (.int p0)], [])) rfl rfl (w_124 (d := d + 0) hx) rfl ?_
    refine ax_Wp.go (f' := (15, [some (.ref 0), some (.int p0)], [.int p0, .ref 9])) 5 rfl ?_
    refine ax_Wp.rdI hD rfl rfl rfl (fun x4 hD => ?_)
    obtain rfl := inj hD
    exact ax_Wp.ret rfl ⟨rfl, rfl⟩
  · obtain rfl := inj hD
    exact ax_Wp.callX (f' := (4, [some (.ref 0), some (.int p0)], [])) rfl rfl (w_124 (d := d + 0) hx) rfl ⟨rfl, rfl⟩
def D99 (m : dM) (p0 : Int32) : Option (Int32 ⊕ Nat) := cT (D124 p0) m (fun (x1 : Unit) => (gI m 8 4 p0).bind fun (x4 : Int32) => some (.inl x4)) (fun (j2 : Nat) (m3 : dM) => some (.inr j2))
set_option maxRecDepth 20000 in
theorem w_99 {X : Nat × (Nat → Int32)} {d : Nat} {m : dM} {p0 : Int32} {r : Int32 ⊕ Nat} (hD : D99 m p0 = some r) : ax_Ev X (d + 7) 78 [.ref 0, .int p0] (stt m) (oT (fun x => some (.int x)) r) (stt (bT m r)) := by
  unfold D99 at hD
  show ax_Wp X (d + 6 + 1) 78 (0, [some (.ref 0), some (.int p0)], []) (stt m) _
  refine ax_Wp.go (f' := (1, [some (.ref 0), some (.int p0)], [.int p0])) 1 rfl ?_
  refine cT.sp hD (fun x1 hx hD => ?_) (fun j2 hx hD => ?_)
  · refine ax_Wp.callE (f' := (4, [some (.ref 0), some (.int p0)], [])) rfl rfl (w_124 (d := d + 0) hx) rfl ?_
    refine ax_Wp.go (f' := (15, [some (.ref 0), some (.int p0)], [.int p0, .ref 8])) 5 rfl ?_
    refine ax_Wp.rdI hD rfl rfl rfl (fun x4 hD => ?_)
    obtain rfl := inj hD
    exact ax_Wp.ret rfl ⟨rfl, rfl⟩
  · obtain rfl := inj hD
    exact ax_Wp.callX (f' := (4, [some (.ref 0), some (.int p0)], [])) rfl rfl (w_124 (d := d + 0) hx) rfl ⟨rfl, rfl⟩
def D119 (m : dM) (p0 : Int32) : Option ((Int32 ⊕ Nat) × dM) := cT (D124 p0) m (fun (x1 : Unit) => (D7 m).bind fun (r4 : dM) => (gI r4 40 4 p0).bind fun (x5 : Int32) => some (.inl x5, r4)) (fun (j2 : Nat) (m3 : dM) => some (.inr j2, m3))
set_option maxRecDepth 20000 in
theorem w_119 {X : Nat × (Nat → Int32)} {d : Nat} {m : dM} {p0 : Int32} {r : (Int32 ⊕ Nat) × dM} (hD : D119 m p0 = some r) : ax_Ev X (d + 7) 97 [.ref 0, .int p0] (stt m) (oT (fun x => some (.int x)) r.1) (stt r.2) := by
  unfold D119 at hD
  show ax_Wp X (d + 6 + 1) 97 (0, [some (.ref 0), some (.int p0)], []) (stt m) _
  refine ax_Wp.go (f' := (1, [some (.ref 0), some (.int p0)], [.int p0])) 1 rfl ?_
  refine cT.sp hD (fun x1 hx hD => ?_) (fun j2 hx hD => ?_)
  · refine ax_Wp.callE (f' := (4, [some (.ref 0), some (.int p0)], [])) rfl rfl (w_124 (d := d + 0) hx) rfl ?_
    refine ax_Wp.go (f' := (12, [some (.ref 0), some (.int p0)], [.ref 1, .ref 36])) 4 rfl ?_
    refine bnd hD (fun r4 hx hD => ?_)
    refine ax_Wp.callE (f' := (15, [some (.ref 0), some (.int p0)], [])) rfl rfl (w_7 (d := d + 3) hx) rfl ?_
    refine ax_Wp.go (f' := (23, [some (.ref 0), some (.int p0)], [.int p0, .ref 40])) 4 rfl ?_
    refine ax_Wp.rdI hD rfl rfl rfl (fun x5 hD => ?_)
    obtain rfl := inj hD
    exact ax_Wp.ret rfl ⟨rfl, rfl⟩
  · obtain rfl := inj hD
    exact ax_Wp.callX (f' := (4, [some (.ref 0), some (.int p0)], [])) rfl rfl (w_124 (d := d + 0) hx) rfl ⟨rfl, rfl⟩
def D98 (m : dM) (p0 : Int32) : Option (Int32 ⊕ Nat) := cT (D124 p0) m (fun (x1 : Unit) => (gI m 7 4 p0).bind fun (x4 : Int32) => if x4 = (-1) then some (.inr 2) else (gI m 7 4 p0).bind fun (x5 : Int32) => some (.inl x5)) (fun (j2 : Nat) (m3 : dM) => some (.inr j2))
set_option maxRecDepth 20000 in
theorem w_98 {X : Nat × (Nat → Int32)} {d : Nat} {m : dM} {p0 : Int32} {r : Int32 ⊕ Nat} (hD : D98 m p0 = some r) : ax_Ev X (d + 7) 77 [.ref 0, .int p0] (stt m) (oT (fun x => some (.int x)) r) (stt (bT m r)) := by
  unfold D98 at hD
  show ax_Wp X (d + 6 + 1) 77 (0, [some (.ref 0), some (.int p0)], []) (stt m) _
  refine ax_Wp.go (f' := (1, [some (.ref 0), some (.int p0)], [.int p0])) 1 rfl ?_
  refine cT.sp hD (fun x1 hx hD => ?_) (fun j2 hx hD => ?_)
  · refine ax_Wp.callE (f' := (4, [some (.ref 0), some (.int p0)], [])) rfl rfl (w_124 (d := d + 0) hx) rfl ?_
    refine ax_Wp.go (f' := (15, [some (.ref 0), some (.int p0)], [.int p0, .ref 7])) 5 rfl ?_
    refine ax_Wp.rdI hD rfl rfl rfl (fun x4 hD => ?_)
    refine ax_Wp.go (f' := (17, [some (.ref 0), some (.int p0)], [.int (-1), .int x4])) 1 rfl ?_
    refine ax_Wp.brD hD rfl (fun _ hD => ?_) (fun _ hD => ?_)
    · obtain rfl := inj hD
      exact ax_Wp.thr rfl (ax_six _ rfl) ⟨rfl, rfl⟩
    · refine ax_Wp.go (f' := (41, [some (.ref 0), some (.int p0)], [.int p0, .ref 7])) 5 rfl ?_
      refine ax_Wp.rdI hD rfl rfl rfl (fun x5 hD => ?_)
      obtain rfl := inj hD
      exact ax_Wp.ret rfl ⟨rfl, rfl⟩
  · obtain rfl := inj hD
    exact ax_Wp.callX (f' := (4, [some (.ref 0), some (.int p0)], [])) rfl rfl (w_124 (d := d + 0) hx) rfl ⟨rfl, rfl⟩
def D120 (m : dM) : Option (UInt32) := Option.bind (lp (β := Int32) 3000 (fun (s1 : Int32 × Int32) => if (nI 4) ≤ s1.2 then some (.inr s1.1) else (D34 m s1.2).bind fun (x3 : Int32) => some (.inl (s1.1 + x3, s1.2 + (nI 1)))) (nI 0, nI 0)) fun (v2 : Int32) => (gF (FP.fdiv (FP.i2f v2) (1082130432 : UInt32))).bind fun (x4 : UInt32) => some x4
set_option maxRecDepth 20000 in
theorem w_120 {X : Nat × (Nat → Int32)} {d : Nat} {m : dM} {r : UInt32} (hD : D120 m = some r) : ax_Ev X (d + 2) 98 [.ref 0] (stt m) (.inl (some (.float r))) (stt m) := by
  unfold D120 at hD
  show ax_Wp X (d + 1 + 1) 98 (0, [some (.ref 0), none, none], []) (stt m) _
  refine ax_Wp.go (f' := (4, [some (.ref 0), some (.int (nI 0)), some (.int (nI 0))], [])) 4 rfl ?_
  refine bnd hD (fun v2 hx hD => ?_)
  refine ax_Wp.jn (F := (29, [some (.ref 0), some (.int v2), none], [])) (hh := stt m) ?_ (fun kkv2 => ?_)
  · refine ax_Wp.go (f' := (34, [some (.ref 0), some (.int v2), none], [.float (1082130432 : UInt32), .float (FP.i2f v2)])) 3 rfl ?_
    refine ax_Wp.flF hD rfl (fun x4 hD => ?_)
    obtain rfl := inj hD
    exact ax_Wp.ret rfl ⟨rfl, rfl⟩
  clear hD
  refine ax_Wp.lpD (fun (s1 : Int32 × Int32) => ((4, [some (.ref 0), some (.int s1.1), some (.int s1.2)], []), stt m)) ?_ hx
  clear hx
  intro s1 v hD ks1
  refine ax_Wp.go (f' := (6, [some (.ref 0), some (.int s1.1), some (.int s1.2)], [.int (nI 4), .int s1.2])) 2 rfl ?_
  refine ax_Wp.brD hD rfl (fun _ hD => ?_) (fun _ hD => ?_)
  · obtain rfl := inj hD
    obtain rfl := ks1.o
    exact ax_Wp.dead kkv2 ⟨.inl rfl, ⟨.inl rfl, ⟨.inr ⟨rfl, trivial⟩, trivial⟩⟩⟩
  · refine ax_Wp.go (f' := (18, [some (.ref 0), some (.int s1.1), some (.int s1.2)], [.int s1.2, .ref 10, .int s1.1])) 5 rfl ?_
    refine bnd hD (fun x3 hx hD => ?_)
    refine ax_Wp.callE (f' := (21, [some (.ref 0), some (.int s1.1), some (.int s1.2)], [.int s1.1])) rfl rfl (w_34 (d := d + 0) hx) rfl ?_
    refine ax_Wp.go (f' := (4, [some (.ref 0), some (.int (s1.1 + x3)), some (.int (s1.2 + (nI 1)))], [])) 4 rfl ?_
    obtain rfl := inj hD
    exact ks1.i
def D65 (m : dM) (p0 : Int32) (p1 : Int32) : Option (Int32) := (D63 m p1).bind fun (x1 : Int32) => Option.bind (lp (β := Int32) 3000 (fun (s2 : Int32 × Int32) => if (rI m 2 4) ≤ s2.2 then some (.inr s2.1) else Option.bind ((if ((x1 >>> (s2.2 &&& nI 31)) &&& (nI 1)) = (nI 1) then (gI m 3 24 s2.2).bind fun (x5 : Int32) => if ((p0 >>> (x5 &&& nI 31)) &&& (nI 1)) = (nI 1) then (gI m 4 24 s2.2).bind fun (x6 : Int32) => some (s2.1 ||| ((nI 1) <<< (x6 &&& nI 31))) else some s2.1 else some s2.1) : Option (Int32)) fun (v4 : Int32) => some (.inl (v4, s2.2 + (nI 1)))) (nI 0, nI 0)) fun (v3 : Int32) => some v3
set_option maxRecDepth 20000 in
theorem w_65 {X : Nat × (Nat → Int32)} {d : Nat} {m : dM} {p0 : Int32} {p1 : Int32} {r : Int32} (hD : D65 m p0 p1 = some r) : ax_Ev X (d + 2) 53 [.ref 2, .int p0, .int p1] (stt m) (.inl (some (.int r))) (stt m) := by
  unfold D65 at hD
  show ax_Wp X (d + 1 + 1) 53 (0, [some (.ref 2), some (.int p0), some (.int p1), none, none, none], []) (stt m) _
  refine ax_Wp.go (f' := (4, [some (.ref 2), some (.int p0), some (.int p1), some (.int (nI 0)), none, none], [.int p1, .ref 2])) 4 rfl ?_
  refine bnd hD (fun x1 hx hD => ?_)
  refine ax_Wp.callE (f' := (7, [some (.ref 2), some (.int p0), some (.int p1), some (.int (nI 0)), none, none], [])) rfl rfl (w_63 (d := d + 0) hx) rfl ?_
  refine ax_Wp.go (f' := (12, [some (.ref 2), some (.int p0), some (.int p1), some (.int (nI 0)), some (.int x1), some (.int (nI 0))], [])) 3 rfl ?_
  refine bnd hD (fun v3 hx hD => ?_)
  refine ax_Wp.jn (F := (65, [some (.ref 2), none, none, some (.int v3), none, none], [])) (hh := stt m) ?_ (fun kkv3 => ?_)
  · refine ax_Wp.go (f' := (66, [some (.ref 2), none, none, some (.int v3), none, none], [.int v3])) 1 rfl ?_
    obtain rfl := inj hD
    exact ax_Wp.ret rfl ⟨rfl, rfl⟩
  clear hD
  refine ax_Wp.dead (L := [some (.ref 2), some (.int p0), none, some (.int (nI 0)), some (.int x1), some (.int (nI 0))]) ?_ ⟨.inl rfl, ⟨.inl rfl, ⟨.inr ⟨rfl, trivial⟩, ⟨.inl rfl, ⟨.inl rfl, ⟨.inl rfl, trivial⟩⟩⟩⟩⟩⟩
  refine ax_Wp.lpD (fun (s2 : Int32 × Int32) => ((12, [some (.ref 2), some (.int p0), none, some (.int s2.1), some (.int x1), some (.int s2.2)], []), stt m)) ?_ hx
  clear hx
  intro s2 v hD ks2
  refine ax_Wp.go (f' := (18, [some (.ref 2), some (.int p0), none, some (.int s2.1), some (.int x1), some (.int s2.2)], [.int (rI m 2 4), .int s2.2])) 3 rfl ?_
  refine ax_Wp.brD hD rfl (fun _ hD => ?_) (fun _ hD => ?_)
  · obtain rfl := inj hD
    obtain rfl := ks2.o
    exact ax_Wp.dead kkv3 ⟨.inl rfl, ⟨.inr ⟨rfl, trivial⟩, ⟨.inl rfl, ⟨.inl rfl, ⟨.inr ⟨rfl, trivial⟩, ⟨.inr ⟨rfl, trivial⟩, trivial⟩⟩⟩⟩⟩⟩
  · refine ax_Wp.go (f' := (29, [some (.ref 2), some (.int p0), none, some (.int s2.1), some (.int x1), some (.int s2.2)], [.int (nI 1), .int ((x1 >>> (s2.2 &&& nI 31)) &&& (nI 1))])) 6 rfl ?_
    refine bnd hD (fun v4 hx hD => ?_)
    refine ax_Wp.jn (F := (59, [some (.ref 2), some (.int p0), none, some (.int v4), some (.int x1), some (.int s2.2)], [])) (hh := stt m) ?_ (fun kkv4 => ?_)
    · refine ax_Wp.go (f' := (12, [some (.ref 2), some (.int p0), none, some (.int v4), some (.int x1), some (.int (s2.2 + (nI 1)))], [])) 2 rfl ?_
      obtain rfl := inj hD
      exact ks2.i
    clear hD
    have hD := hx
    clear hx
    refine ax_Wp.brD hD rfl (fun _ hD => ?_) (fun _ hD => ?_)
    · refine ax_Wp.go (f' := (39, [some (.ref 2), some (.int p0), none, some (.int s2.1), some (.int x1), some (.int s2.2)], [.int s2.2, .ref 3, .int p0])) 4 rfl ?_
      refine ax_Wp.rdI hD rfl rfl rfl (fun x5 hD => ?_)
      refine ax_Wp.go (f' := (44, [some (.ref 2), some (.int p0), none, some (.int s2.1), some (.int x1), some (.int s2.2)], [.int (nI 1), .int ((p0 >>> (x5 &&& nI 31)) &&& (nI 1))])) 4 rfl ?_
      refine ax_Wp.brD hD rfl (fun _ hD => ?_) (fun _ hD => ?_)
      · refine ax_Wp.go (f' := (55, [some (.ref 2), some (.int p0), none, some (.int s2.1), some (.int x1), some (.int s2.2)], [.int s2.2, .ref 4, .int (nI 1), .int s2.1])) 5 rfl ?_
        refine ax_Wp.rdI hD rfl rfl rfl (fun x6 hD => ?_)
        refine ax_Wp.go (f' := (59, [some (.ref 2), some (.int p0), none, some (.int (s2.1 ||| ((nI 1) <<< (x6 &&& nI 31)))), some (.int x1), some (.int s2.2)], [])) 3 rfl ?_
        obtain rfl := inj hD
        exact kkv4
      · obtain rfl := inj hD
        exact kkv4
    · obtain rfl := inj hD
      exact kkv4
def D66 (m : dM) (p0 : Int32) (p1 : Int32) : Option (Int32) := lp (β := Int32) 3000 (fun (s1 : Int32 × Int32) => if (nI 10) ≤ s1.2 then some (.inr s1.1) else (D65 m s1.1 p1).bind fun (x2 : Int32) => if (s1.1 ||| x2) = s1.1 then some (.inr s1.1) else some (.inl (s1.1 ||| x2, s1.2 + (nI 1)))) ((nI 1) <<< (p0 &&& nI 31), nI 0)
set_option maxRecDepth 20000 in
theorem w_66 {X : Nat × (Nat → Int32)} {d : Nat} {m : dM} {p0 : Int32} {p1 : Int32} {r : Int32} (hD : D66 m p0 p1 = some r) : ax_Ev X (d + 3) 54 [.ref 2, .int p0, .int p1] (stt m) (.inl (some (.int r))) (stt m) := by
  unfold D66 at hD
  show ax_Wp X (d + 2 + 1) 54 (0, [some (.ref 2), some (.int p0), some (.int p1), none, none, none], []) (stt m) _
  refine ax_Wp.go (f' := (7, [some (.ref 2), some (.int p0), some (.int p1), some (.int ((nI 1) <<< (p0 &&& nI 31))), some (.int (nI 0)), none], [])) 6 rfl ?_
  refine ax_Wp.dead (L := [some (.ref 2), none, some (.int p1), some (.int ((nI 1) <<< (p0 &&& nI 31))), some (.int (nI 0)), none]) ?_ ⟨.inl rfl, ⟨.inr ⟨rfl, trivial⟩, ⟨.inl rfl, ⟨.inl rfl, ⟨.inl rfl, ⟨.inl rfl, trivial⟩⟩⟩⟩⟩⟩
  refine ax_Wp.lpD (fun (s1 : Int32 × Int32) => ((7, [some (.ref 2), none, some (.int p1), some (.int s1.1), some (.int s1.2), none], []), stt m)) ?_ hD
  clear hD
  intro s1 v hD ks1
  refine ax_Wp.go (f' := (11, [some (.ref 2), none, some (.int p1), some (.int s1.1), some (.int s1.2), none], [.int (nI 10), .int s1.2])) 2 rfl ?_
  refine ax_Wp.brD hD rfl (fun _ hD => ?_) (fun _ hD => ?_)
  · refine ax_Wp.go (f' := (42, [some (.ref 2), none, some (.int p1), some (.int s1.1), some (.int s1.2), none], [.int s1.1])) 1 rfl ?_
    obtain rfl := inj hD
    obtain rfl := ks1.o
    exact ax_Wp.ret rfl ⟨rfl, rfl⟩
  · refine ax_Wp.go (f' := (18, [some (.ref 2), none, some (.int p1), some (.int s1.1), some (.int s1.2), none], [.int p1, .int s1.1, .ref 2, .int s1.1])) 4 rfl ?_
    refine bnd hD (fun x2 hx hD => ?_)
    refine ax_Wp.callE (f' := (21, [some (.ref 2), none, some (.int p1), some (.int s1.1), some (.int s1.2), none], [.int s1.1])) rfl rfl (w_65 (d := d + 0) hx) rfl ?_
    refine ax_Wp.go (f' := (27, [some (.ref 2), none, some (.int p1), some (.int s1.1), some (.int s1.2), some (.int (s1.1 ||| x2))], [.int s1.1, .int (s1.1 ||| x2)])) 4 rfl ?_
    refine ax_Wp.brD hD rfl (fun _ hD => ?_) (fun _ hD => ?_)
    · refine ax_Wp.go (f' := (31, [some (.ref 2), none, some (.int p1), some (.int s1.1), some (.int s1.2), some (.int (s1.1 ||| x2))], [.int s1.1])) 1 rfl ?_
      obtain rfl := inj hD
      obtain rfl := ks1.o
      exact ax_Wp.ret rfl ⟨rfl, rfl⟩
    · refine ax_Wp.go (f' := (7, [some (.ref 2), none, some (.int p1), some (.int (s1.1 ||| x2)), some (.int (s1.2 + (nI 1))), some (.int (s1.1 ||| x2))], [])) 4 rfl ?_
      obtain rfl := inj hD
      exact ax_Wp.dead ks1.i ⟨.inl rfl, ⟨.inl rfl, ⟨.inl rfl, ⟨.inl rfl, ⟨.inl rfl, ⟨.inr ⟨rfl, trivial⟩, trivial⟩⟩⟩⟩⟩⟩
def D113 (m : dM) (p0 : Int32) : Option (Int32 ⊕ Nat) := cT (D124 p0) m (fun (x1 : Unit) => (gI m 6 4 p0).bind fun (x4 : Int32) => (D3 m p0).bind fun (x5 : Int32) => (D66 m x4 x5).bind fun (x6 : Int32) => some (.inl x6)) (fun (j2 : Nat) (m3 : dM) => some (.inr j2))
set_option maxRecDepth 20000 in
theorem w_113 {X : Nat × (Nat → Int32)} {d : Nat} {m : dM} {p0 : Int32} {r : Int32 ⊕ Nat} (hD : D113 m p0 = some r) : ax_Ev X (d + 7) 92 [.ref 0, .int p0] (stt m) (oT (fun x => some (.int x)) r) (stt (bT m r)) := by
  unfold D113 at hD
  show ax_Wp X (d + 6 + 1) 92 (0, [some (.ref 0), some (.int p0)], []) (stt m) _
  refine ax_Wp.go (f' := (1, [some (.ref 0), some (.int p0)], [.int p0])) 1 rfl ?_
  refine cT.sp hD (fun x1 hx hD => ?_) (fun j2 hx hD => ?_)
  · refine ax_Wp.callE (f' := (4, [some (.ref 0), some (.int p0)], [])) rfl rfl (w_124 (d := d + 0) hx) rfl ?_
    refine ax_Wp.go (f' := (22, [some (.ref 0), some (.int p0)], [.int p0, .ref 6, .ref 2])) 8 rfl ?_
    refine ax_Wp.rdI hD rfl rfl rfl (fun x4 hD => ?_)
    refine ax_Wp.go (f' := (31, [some (.ref 0), some (.int p0)], [.int p0, .ref 5, .int x4, .ref 2])) 4 rfl ?_
    refine bnd hD (fun x5 hx hD => ?_)
    refine ax_Wp.callE (f' := (34, [some (.ref 0), some (.int p0)], [.int x4, .ref 2])) rfl rfl (w_3 (d := d + 5) hx) rfl ?_
    refine bnd hD (fun x6 hx hD => ?_)
    refine ax_Wp.callE (f' := (37, [some (.ref 0), some (.int p0)], [])) rfl rfl (w_66 (d := d + 3) hx) rfl ?_
    obtain rfl := inj hD
    exact ax_Wp.ret rfl ⟨rfl, rfl⟩
  · obtain rfl := inj hD
    exact ax_Wp.callX (f' := (4, [some (.ref 0), some (.int p0)], [])) rfl rfl (w_124 (d := d + 0) hx) rfl ⟨rfl, rfl⟩
def D68 (m : dM) (p0 : Int32) (p1 : Int32) (p2 : Int32) : Option (Int32) := lp (β := Int32) 3000 (fun (s1 : Int32 × Int32) => if (nI 10) ≤ s1.2 then some (.inr (-1)) else if ((s1.1 >>> (p1 &&& nI 31)) &&& (nI 1)) = (nI 1) then some (.inr s1.2) else (D65 m s1.1 p2).bind fun (x2 : Int32) => if (s1.1 ||| x2) = s1.1 then some (.inr (-1)) else some (.inl (s1.1 ||| x2, s1.2 + (nI 1)))) ((nI 1) <<< (p0 &&& nI 31), nI 0)
set_option maxRecDepth 20000 in
theorem w_68 {X : Nat × (Nat → Int32)} {d : Nat} {m : dM} {p0 : Int32} {p1 : Int32} {p2 : Int32} {r : Int32} (hD : D68 m p0 p1 p2 = some r) : ax_Ev X (d + 3) 56 [.ref 2, .int p0, .int p1, .int p2] (stt m) (.inl (some (.int r))) (stt m) := by
  unfold D68 at hD
  show ax_Wp X (d + 2 + 1) 56 (0, [some (.ref 2), some (.int p0), some (.int p1), some (.int p2), none, none, none], []) (stt m) _
  refine ax_Wp.go (f' := (8, [some (.ref 2), some (.int p0), some (.int p1), some (.int p2), some (.int ((nI 1) <<< (p0 &&& nI 31))), some (.int (nI 0)), none], [])) 6 rfl ?_
  refine ax_Wp.dead (L := [some (.ref 2), none, some (.int p1), some (.int p2), some (.int ((nI 1) <<< (p0 &&& nI 31))), some (.int (nI 0)), none]) ?_ ⟨.inl rfl, ⟨.inr ⟨rfl, trivial⟩, ⟨.inl rfl, ⟨.inl rfl, ⟨.inl rfl, ⟨.inl rfl, ⟨.inl rfl, trivial⟩⟩⟩⟩⟩⟩⟩
  refine ax_Wp.lpD (fun (s1 : Int32 × Int32) => ((8, [some (.ref 2), none, some (.int p1), some (.int p2), some (.int s1.1), some (.int s1.2), none], []), stt m)) ?_ hD
  clear hD
  intro s1 v hD ks1
  refine ax_Wp.go (f' := (12, [some (.ref 2), none, some (.int p1), some (.int p2), some (.int s1.1), some (.int s1.2), none], [.int (nI 10), .int s1.2])) 2 rfl ?_
  refine ax_Wp.brD hD rfl (fun _ hD => ?_) (fun _ hD => ?_)
  · refine ax_Wp.go (f' := (60, [some (.ref 2), none, some (.int p1), some (.int p2), some (.int s1.1), some (.int s1.2), none], [.int (-1)])) 1 rfl ?_
    obtain rfl := inj hD
    obtain rfl := ks1.o
    exact ax_Wp.ret rfl ⟨rfl, rfl⟩
  · refine ax_Wp.go (f' := (22, [some (.ref 2), none, some (.int p1), some (.int p2), some (.int s1.1), some (.int s1.2), none], [.int (nI 1), .int ((s1.1 >>> (p1 &&& nI 31)) &&& (nI 1))])) 6 rfl ?_
    refine ax_Wp.brD hD rfl (fun _ hD => ?_) (fun _ hD => ?_)
    · refine ax_Wp.go (f' := (27, [some (.ref 2), none, some (.int p1), some (.int p2), some (.int s1.1), some (.int s1.2), none], [.int s1.2])) 1 rfl ?_
      obtain rfl := inj hD
      obtain rfl := ks1.o
      exact ax_Wp.ret rfl ⟨rfl, rfl⟩
    · refine ax_Wp.go (f' := (34, [some (.ref 2), none, some (.int p1), some (.int p2), some (.int s1.1), some (.int s1.2), none], [.int p2, .int s1.1, .ref 2, .int s1.1])) 4 rfl ?_
      refine bnd hD (fun x2 hx hD => ?_)
      refine ax_Wp.callE (f' := (37, [some (.ref 2), none, some (.int p1), some (.int p2), some (.int s1.1), some (.int s1.2), none], [.int s1.1])) rfl rfl (w_65 (d := d + 0) hx) rfl ?_
      refine ax_Wp.go (f' := (44, [some (.ref 2), none, some (.int p1), some (.int p2), some (.int s1.1), some (.int s1.2), some (.int (s1.1 ||| x2))], [.int s1.1, .int (s1.1 ||| x2)])) 4 rfl ?_
      refine ax_Wp.brD hD rfl (fun _ hD => ?_) (fun _ hD => ?_)
      · refine ax_Wp.go (f' := (48, [some (.ref 2), none, some (.int p1), some (.int p2), some (.int s1.1), some (.int s1.2), some (.int (s1.1 ||| x2))], [.int (-1)])) 1 rfl ?_
        obtain rfl := inj hD
        obtain rfl := ks1.o
        exact ax_Wp.ret rfl ⟨rfl, rfl⟩
      · refine ax_Wp.go (f' := (8, [some (.ref 2), none, some (.int p1), some (.int p2), some (.int (s1.1 ||| x2)), some (.int (s1.2 + (nI 1))), some (.int (s1.1 ||| x2))], [])) 4 rfl ?_
        obtain rfl := inj hD
        exact ax_Wp.dead ks1.i ⟨.inl rfl, ⟨.inl rfl, ⟨.inl rfl, ⟨.inl rfl, ⟨.inl rfl, ⟨.inl rfl, ⟨.inr ⟨rfl, trivial⟩, trivial⟩⟩⟩⟩⟩⟩⟩
