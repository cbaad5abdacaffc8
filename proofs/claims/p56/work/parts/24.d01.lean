/-! WHAT METHODS DO, printed of their bytecode -/
def D90 (m : dM) : Option (Int32) := some (rI m 2 4)
set_option maxRecDepth 20000 in
theorem w_90 {X : Nat × (Nat → Int32)} {d : Nat} {m : dM} {r : Int32} (hD : D90 m = some r) : ax_Ev X (d + 1) 69 [.ref 0] (stt m) (.inl (some (.int r))) (stt m) := by
  unfold D90 at hD
  show ax_Wp X (d + 0 + 1) 69 (0, [some (.ref 0)], []) (stt m) _
  refine ax_Wp.go (f' := (10, [some (.ref 0)], [.int (rI m 2 4)])) 4 rfl ?_
  obtain rfl := inj hD
  exact ax_Wp.ret rfl ⟨rfl, rfl⟩
def D128 (p0 : Int32) : Option (Int32) := Option.bind ((if p0 < (nI 0) then some (nI 0) else if (nI 4) ≤ p0 then some (nI 0) else some (nI 1)) : Option (Int32)) fun (v1 : Int32) => (gB v1).bind fun (b2 : Int32) => some b2
set_option maxRecDepth 20000 in
theorem w_128 {X : Nat × (Nat → Int32)} {d : Nat} {m : dM} {p0 : Int32} {r : Int32} (hD : D128 p0 = some r) : ax_Ev X (d + 1) 105 [.int p0] (stt m) (.inl (some (.int r))) (stt m) := by
  unfold D128 at hD
  show ax_Wp X (d + 0 + 1) 105 (0, [some (.int p0)], []) (stt m) _
  refine ax_Wp.go (f' := (1, [some (.int p0)], [.int p0])) 1 rfl ?_
  refine bnd hD (fun v1 hx hD => ?_)
  refine ax_Wp.jn (F := (14, [none], [.int v1])) (hh := stt m) ?_ (fun kkv1 => ?_)
  · refine ax_Wp.retB hD rfl (fun b2 hD => ?_)
    obtain rfl := inj hD
    exact ⟨rfl, rfl⟩
  clear hD
  have hD := hx
  clear hx
  refine ax_Wp.brD hD rfl (fun _ hD => ?_) (fun _ hD => ?_)
  · refine ax_Wp.go (f' := (14, [some (.int p0)], [.int (nI 0)])) 1 rfl ?_
    obtain rfl := inj hD
    exact ax_Wp.dead kkv1 ⟨.inr ⟨rfl, trivial⟩, trivial⟩
  · refine ax_Wp.go (f' := (6, [some (.int p0)], [.int (nI 4), .int p0])) 2 rfl ?_
    refine ax_Wp.brD hD rfl (fun _ hD => ?_) (fun _ hD => ?_)
    · refine ax_Wp.go (f' := (14, [some (.int p0)], [.int (nI 0)])) 1 rfl ?_
      obtain rfl := inj hD
      exact ax_Wp.dead kkv1 ⟨.inr ⟨rfl, trivial⟩, trivial⟩
    · refine ax_Wp.go (f' := (14, [some (.int p0)], [.int (nI 1)])) 2 rfl ?_
      obtain rfl := inj hD
      exact ax_Wp.dead kkv1 ⟨.inr ⟨rfl, trivial⟩, trivial⟩
def D124 (p0 : Int32) : Option (Unit ⊕ Nat) := (D128 p0).bind fun (x1 : Int32) => if x1 = (nI 0) then some (.inr 0) else some (.inl ())
set_option maxRecDepth 20000 in
theorem w_124 {X : Nat × (Nat → Int32)} {d : Nat} {m : dM} {p0 : Int32} {r : Unit ⊕ Nat} (hD : D124 p0 = some r) : ax_Ev X (d + 6) 101 [.int p0] (stt m) (oT (fun (_ : Unit) => none) r) (stt (bT m r)) := by
  unfold D124 at hD
  show ax_Wp X (d + 5 + 1) 101 (0, [some (.int p0)], []) (stt m) _
  refine ax_Wp.go (f' := (1, [some (.int p0)], [.int p0])) 1 rfl ?_
  refine bnd hD (fun x1 hx hD => ?_)
  refine ax_Wp.callE (f' := (4, [some (.int p0)], [])) rfl rfl (w_128 (d := d + 4) hx) rfl ?_
  refine ax_Wp.brD hD rfl (fun _ hD => ?_) (fun _ hD => ?_)
  · obtain rfl := inj hD
    exact ax_Wp.thr rfl (ax_six _ rfl) ⟨rfl, rfl⟩
  · obtain rfl := inj hD
    exact ax_Wp.ret rfl ⟨rfl, rfl⟩
def D58_46_2 (m : dM) : Option (dM) := (kI m 3 47 24).bind fun (m1 : dM) => (kI m1 4 48 24).bind fun (m2 : dM) => (fI m2 46 2 (rI m2 2 2)).bind fun (m3 : dM) => (fI m3 46 3 (rI m3 2 3)).bind fun (m4 : dM) => (fI m4 46 4 (rI m4 2 4)).bind fun (m5 : dM) => some m5
set_option maxRecDepth 20000 in
theorem w_58_46_2 {X : Nat × (Nat → Int32)} {d : Nat} {m : dM} {r : dM} (hD : D58_46_2 m = some r) : ax_Ev X (d + 1) 46 [.ref 46, .ref 2] (stt m) (.inl none) (stt r) := by
  unfold D58_46_2 at hD
  show ax_Wp X (d + 0 + 1) 46 (0, [some (.ref 46), some (.ref 2)], []) (stt m) _
  refine ax_Wp.go (f' := (12, [some (.ref 46), some (.ref 2)], [.int (nI 24), .int (nI 0), .ref 47, .int (nI 0), .ref 3])) 7 rfl ?_
  refine ax_Wp.cpI (S' := []) hD rfl rfl (fun _ => rfl) (fun m1 hD => ?_)
  refine ax_Wp.go (f' := (27, [some (.ref 46), some (.ref 2)], [.int (nI 24), .int (nI 0), .ref 48, .int (nI 0), .ref 4])) 7 rfl ?_
  refine ax_Wp.cpI (S' := []) hD rfl rfl (fun _ => rfl) (fun m2 hD => ?_)
  refine ax_Wp.go (f' := (35, [some (.ref 46), some (.ref 2)], [.int (rI m2 2 2), .ref 46])) 3 rfl ?_
  refine ax_Wp.ptI hD rfl rfl rfl (fun m3 hD => ?_)
  refine ax_Wp.go (f' := (43, [some (.ref 46), some (.ref 2)], [.int (rI m3 2 3), .ref 46])) 3 rfl ?_
  refine ax_Wp.ptI hD rfl rfl rfl (fun m4 hD => ?_)
  refine ax_Wp.go (f' := (51, [some (.ref 46), some (.ref 2)], [.int (rI m4 2 4), .ref 46])) 3 rfl ?_
  refine ax_Wp.ptI hD rfl rfl rfl (fun m5 hD => ?_)
  obtain rfl := inj hD
  exact ax_Wp.ret rfl ⟨rfl, rfl⟩
def D1_49_5 (m : dM) : Option (dM) := (kI m 6 50 4).bind fun (m1 : dM) => (kI m1 7 51 4).bind fun (m2 : dM) => (kI m2 8 52 4).bind fun (m3 : dM) => (kI m3 9 53 4).bind fun (m4 : dM) => (fI m4 49 4 (rI m4 5 4)).bind fun (m5 : dM) => some m5
set_option maxRecDepth 20000 in
theorem w_1_49_5 {X : Nat × (Nat → Int32)} {d : Nat} {m : dM} {r : dM} (hD : D1_49_5 m = some r) : ax_Ev X (d + 1) 1 [.ref 49, .ref 5] (stt m) (.inl none) (stt r) := by
  unfold D1_49_5 at hD
  show ax_Wp X (d + 0 + 1) 1 (0, [some (.ref 49), some (.ref 5)], []) (stt m) _
  refine ax_Wp.go (f' := (11, [some (.ref 49), some (.ref 5)], [.int (nI 4), .int (nI 0), .ref 50, .int (nI 0), .ref 6])) 7 rfl ?_
  refine ax_Wp.cpI (S' := []) hD rfl rfl (fun _ => rfl) (fun m1 hD => ?_)
  refine ax_Wp.go (f' := (25, [some (.ref 49), some (.ref 5)], [.int (nI 4), .int (nI 0), .ref 51, .int (nI 0), .ref 7])) 7 rfl ?_
  refine ax_Wp.cpI (S' := []) hD rfl rfl (fun _ => rfl) (fun m2 hD => ?_)
  refine ax_Wp.go (f' := (39, [some (.ref 49), some (.ref 5)], [.int (nI 4), .int (nI 0), .ref 52, .int (nI 0), .ref 8])) 7 rfl ?_
  refine ax_Wp.cpI (S' := []) hD rfl rfl (fun _ => rfl) (fun m3 hD => ?_)
  refine ax_Wp.go (f' := (53, [some (.ref 49), some (.ref 5)], [.int (nI 4), .int (nI 0), .ref 53, .int (nI 0), .ref 9])) 7 rfl ?_
  refine ax_Wp.cpI (S' := []) hD rfl rfl (fun _ => rfl) (fun m4 hD => ?_)
  refine ax_Wp.go (f' := (61, [some (.ref 49), some (.ref 5)], [.int (rI m4 5 4), .ref 49])) 3 rfl ?_
  refine ax_Wp.ptI hD rfl rfl rfl (fun m5 hD => ?_)
  obtain rfl := inj hD
  exact ax_Wp.ret rfl ⟨rfl, rfl⟩
def D28_54_10 (m : dM) : Option (dM) := (kI m 11 55 8).bind fun (m1 : dM) => (kI m1 12 56 8).bind fun (m2 : dM) => (kI m2 13 57 8).bind fun (m3 : dM) => (kI m3 14 58 8).bind fun (m4 : dM) => (fI m4 54 4 (rI m4 10 4)).bind fun (m5 : dM) => some m5
set_option maxRecDepth 20000 in
theorem w_28_54_10 {X : Nat × (Nat → Int32)} {d : Nat} {m : dM} {r : dM} (hD : D28_54_10 m = some r) : ax_Ev X (d + 1) 18 [.ref 54, .ref 10] (stt m) (.inl none) (stt r) := by
  unfold D28_54_10 at hD
  show ax_Wp X (d + 0 + 1) 18 (0, [some (.ref 54), some (.ref 10)], []) (stt m) _
  refine ax_Wp.go (f' := (12, [some (.ref 54), some (.ref 10)], [.int (nI 8), .int (nI 0), .ref 55, .int (nI 0), .ref 11])) 7 rfl ?_
  refine ax_Wp.cpI (S' := []) hD rfl rfl (fun _ => rfl) (fun m1 hD => ?_)
  refine ax_Wp.go (f' := (27, [some (.ref 54), some (.ref 10)], [.int (nI 8), .int (nI 0), .ref 56, .int (nI 0), .ref 12])) 7 rfl ?_
  refine ax_Wp.cpI (S' := []) hD rfl rfl (fun _ => rfl) (fun m2 hD => ?_)
  refine ax_Wp.go (f' := (42, [some (.ref 54), some (.ref 10)], [.int (nI 8), .int (nI 0), .ref 57, .int (nI 0), .ref 13])) 7 rfl ?_
  refine ax_Wp.cpI (S' := []) hD rfl rfl (fun _ => rfl) (fun m3 hD => ?_)
  refine ax_Wp.go (f' := (57, [some (.ref 54), some (.ref 10)], [.int (nI 8), .int (nI 0), .ref 58, .int (nI 0), .ref 14])) 7 rfl ?_
  refine ax_Wp.cpI (S' := []) hD rfl rfl (fun _ => rfl) (fun m4 hD => ?_)
  refine ax_Wp.go (f' := (65, [some (.ref 54), some (.ref 10)], [.int (rI m4 10 4), .ref 54])) 3 rfl ?_
  refine ax_Wp.ptI hD rfl rfl rfl (fun m5 hD => ?_)
  obtain rfl := inj hD
  exact ax_Wp.ret rfl ⟨rfl, rfl⟩
def D22_59_15 (m : dM) : Option (dM) := (kL m 16 60 61).bind fun (m1 : dM) => (fI m1 59 1 (rI m1 15 1)).bind fun (m2 : dM) => some m2
set_option maxRecDepth 20000 in
theorem w_22_59_15 {X : Nat × (Nat → Int32)} {d : Nat} {m : dM} {r : dM} (hD : D22_59_15 m = some r) : ax_Ev X (d + 1) 12 [.ref 59, .ref 15] (stt m) (.inl none) (stt r) := by
  unfold D22_59_15 at hD
  show ax_Wp X (d + 0 + 1) 12 (0, [some (.ref 59), some (.ref 15)], []) (stt m) _
  refine ax_Wp.go (f' := (12, [some (.ref 59), some (.ref 15)], [.int (nI 61), .int (nI 0), .ref 60, .int (nI 0), .ref 16])) 7 rfl ?_
  refine ax_Wp.cpL (S' := []) hD rfl rfl (fun _ => rfl) (fun m1 hD => ?_)
  refine ax_Wp.go (f' := (20, [some (.ref 59), some (.ref 15)], [.int (rI m1 15 1), .ref 59])) 3 rfl ?_
  refine ax_Wp.ptI hD rfl rfl rfl (fun m2 hD => ?_)
  obtain rfl := inj hD
  exact ax_Wp.ret rfl ⟨rfl, rfl⟩
def D41_45_1 (m : dM) : Option (dM) := (D58_46_2 m).bind fun (r1 : dM) => (D1_49_5 r1).bind fun (r2 : dM) => (D28_54_10 r2).bind fun (r3 : dM) => (D22_59_15 r3).bind fun (r4 : dM) => (kI r4 17 61 2).bind fun (m5 : dM) => (fI m5 45 5 (rI m5 1 5)).bind fun (m6 : dM) => (fI m6 45 6 (rI m6 1 6)).bind fun (m7 : dM) => (fI m7 45 7 (rI m7 1 7)).bind fun (m8 : dM) => (fI m8 45 8 (rI m8 1 8)).bind fun (m9 : dM) => (fI m9 45 9 (rI m9 1 9)).bind fun (m10 : dM) => some m10
set_option maxRecDepth 20000 in
theorem w_41_45_1 {X : Nat × (Nat → Int32)} {d : Nat} {m : dM} {r : dM} (hD : D41_45_1 m = some r) : ax_Ev X (d + 2) 31 [.ref 45, .ref 1] (stt m) (.inl none) (stt r) := by
  unfold D41_45_1 at hD
  show ax_Wp X (d + 1 + 1) 31 (0, [some (.ref 45), some (.ref 1)], []) (stt m) _
  refine ax_Wp.go (f' := (8, [some (.ref 45), some (.ref 1)], [.ref 2, .ref 46])) 4 rfl ?_
  refine bnd hD (fun r1 hx hD => ?_)
  refine ax_Wp.callE (f' := (11, [some (.ref 45), some (.ref 1)], [])) rfl rfl (w_58_46_2 (d := d + 0) hx) rfl ?_
  refine ax_Wp.go (f' := (19, [some (.ref 45), some (.ref 1)], [.ref 5, .ref 49])) 4 rfl ?_
  refine bnd hD (fun r2 hx hD => ?_)
  refine ax_Wp.callE (f' := (22, [some (.ref 45), some (.ref 1)], [])) rfl rfl (w_1_49_5 (d := d + 0) hx) rfl ?_
  refine ax_Wp.go (f' := (30, [some (.ref 45), some (.ref 1)], [.ref 10, .ref 54])) 4 rfl ?_
  refine bnd hD (fun r3 hx hD => ?_)
  refine ax_Wp.callE (f' := (33, [some (.ref 45), some (.ref 1)], [])) rfl rfl (w_28_54_10 (d := d + 0) hx) rfl ?_
  refine ax_Wp.go (f' := (41, [some (.ref 45), some (.ref 1)], [.ref 15, .ref 59])) 4 rfl ?_
  refine bnd hD (fun r4 hx hD => ?_)
  refine ax_Wp.callE (f' := (44, [some (.ref 45), some (.ref 1)], [])) rfl rfl (w_22_59_15 (d := d + 0) hx) rfl ?_
  refine ax_Wp.go (f' := (55, [some (.ref 45), some (.ref 1)], [.int (nI 2), .int (nI 0), .ref 61, .int (nI 0), .ref 17])) 7 rfl ?_
  refine ax_Wp.cpI (S' := []) hD rfl rfl (fun _ => rfl) (fun m5 hD => ?_)
  refine ax_Wp.go (f' := (63, [some (.ref 45), some (.ref 1)], [.int (rI m5 1 5), .ref 45])) 3 rfl ?_
  refine ax_Wp.ptI hD rfl rfl rfl (fun m6 hD => ?_)
  refine ax_Wp.go (f' := (71, [some (.ref 45), some (.ref 1)], [.int (rI m6 1 6), .ref 45])) 3 rfl ?_
  refine ax_Wp.ptI hD rfl rfl rfl (fun m7 hD => ?_)
  refine ax_Wp.go (f' := (79, [some (.ref 45), some (.ref 1)], [.int (rI m7 1 7), .ref 45])) 3 rfl ?_
  refine ax_Wp.ptI hD rfl rfl rfl (fun m8 hD => ?_)
  refine ax_Wp.go (f' := (87, [some (.ref 45), some (.ref 1)], [.int (rI m8 1 8), .ref 45])) 3 rfl ?_
  refine ax_Wp.ptI hD rfl rfl rfl (fun m9 hD => ?_)
  refine ax_Wp.go (f' := (95, [some (.ref 45), some (.ref 1)], [.int (rI m9 1 9), .ref 45])) 3 rfl ?_
  refine ax_Wp.ptI hD rfl rfl rfl (fun m10 hD => ?_)
  obtain rfl := inj hD
  exact ax_Wp.ret rfl ⟨rfl, rfl⟩
def D58_63_2 (m : dM) : Option (dM) := (kI m 3 64 24).bind fun (m1 : dM) => (kI m1 4 65 24).bind fun (m2 : dM) => (fI m2 63 2 (rI m2 2 2)).bind fun (m3 : dM) => (fI m3 63 3 (rI m3 2 3)).bind fun (m4 : dM) => (fI m4 63 4 (rI m4 2 4)).bind fun (m5 : dM) => some m5
set_option maxRecDepth 20000 in
theorem w_58_63_2 {X : Nat × (Nat → Int32)} {d : Nat} {m : dM} {r : dM} (hD : D58_63_2 m = some r) : ax_Ev X (d + 1) 46 [.ref 63, .ref 2] (stt m) (.inl none) (stt r) := by
  unfold D58_63_2 at hD
  show ax_Wp X (d + 0 + 1) 46 (0, [some (.ref 63), some (.ref 2)], []) (stt m) _
  refine ax_Wp.go (f' := (12, [some (.ref 63), some (.ref 2)], [.int (nI 24), .int (nI 0), .ref 64, .int (nI 0), .ref 3])) 7 rfl ?_
  refine ax_Wp.cpI (S' := []) hD rfl rfl (fun _ => rfl) (fun m1 hD => ?_)
  refine ax_Wp.go (f' := (27, [some (.ref 63), some (.ref 2)], [.int (nI 24), .int (nI 0), .ref 65, .int (nI 0), .ref 4])) 7 rfl ?_
  refine ax_Wp.cpI (S' := []) hD rfl rfl (fun _ => rfl) (fun m2 hD => ?_)
  refine ax_Wp.go (f' := (35, [some (.ref 63), some (.ref 2)], [.int (rI m2 2 2), .ref 63])) 3 rfl ?_
  refine ax_Wp.ptI hD rfl rfl rfl (fun m3 hD => ?_)
  refine ax_Wp.go (f' := (43, [some (.ref 63), some (.ref 2)], [.int (rI m3 2 3), .ref 63])) 3 rfl ?_
  refine ax_Wp.ptI hD rfl rfl rfl (fun m4 hD => ?_)
  refine ax_Wp.go (f' := (51, [some (.ref 63), some (.ref 2)], [.int (rI m4 2 4), .ref 63])) 3 rfl ?_
  refine ax_Wp.ptI hD rfl rfl rfl (fun m5 hD => ?_)
  obtain rfl := inj hD
  exact ax_Wp.ret rfl ⟨rfl, rfl⟩
def D1_66_5 (m : dM) : Option (dM) := (kI m 6 67 4).bind fun (m1 : dM) => (kI m1 7 68 4).bind fun (m2 : dM) => (kI m2 8 69 4).bind fun (m3 : dM) => (kI m3 9 70 4).bind fun (m4 : dM) => (fI m4 66 4 (rI m4 5 4)).bind fun (m5 : dM) => some m5
set_option maxRecDepth 20000 in
theorem w_1_66_5 {X : Nat × (Nat → Int32)} {d : Nat} {m : dM} {r : dM} (hD : D1_66_5 m = some r) : ax_Ev X (d + 1) 1 [.ref 66, .ref 5] (stt m) (.inl none) (stt r) := by
  unfold D1_66_5 at hD
  show ax_Wp X (d + 0 + 1) 1 (0, [some (.ref 66), some (.ref 5)], []) (stt m) _
  refine ax_Wp.go (f' := (11, [some (.ref 66), some (.ref 5)], [.int (nI 4), .int (nI 0), .ref 67, .int (nI 0), .ref 6])) 7 rfl ?_
  refine ax_Wp.cpI (S' := []) hD rfl rfl (fun _ => rfl) (fun m1 hD => ?_)
  refine ax_Wp.go (f' := (25, [some (.ref 66), some (.ref 5)], [.int (nI 4), .int (nI 0), .ref 68, .int (nI 0), .ref 7])) 7 rfl ?_
  refine ax_Wp.cpI (S' := []) hD rfl rfl (fun _ => rfl) (fun m2 hD => ?_)
  refine ax_Wp.go (f' := (39, [some (.ref 66), some (.ref 5)], [.int (nI 4), .int (nI 0), .ref 69, .int (nI 0), .ref 8])) 7 rfl ?_
  refine ax_Wp.cpI (S' := []) hD rfl rfl (fun _ => rfl) (fun m3 hD => ?_)
  refine ax_Wp.go (f' := (53, [some (.ref 66), some (.ref 5)], [.int (nI 4), .int (nI 0), .ref 70, .int (nI 0), .ref 9])) 7 rfl ?_
  refine ax_Wp.cpI (S' := []) hD rfl rfl (fun _ => rfl) (fun m4 hD => ?_)
  refine ax_Wp.go (f' := (61, [some (.ref 66), some (.ref 5)], [.int (rI m4 5 4), .ref 66])) 3 rfl ?_
  refine ax_Wp.ptI hD rfl rfl rfl (fun m5 hD => ?_)
  obtain rfl := inj hD
  exact ax_Wp.ret rfl ⟨rfl, rfl⟩
def D28_71_10 (m : dM) : Option (dM) := (kI m 11 72 8).bind fun (m1 : dM) => (kI m1 12 73 8).bind fun (m2 : dM) => (kI m2 13 74 8).bind fun (m3 : dM) => (kI m3 14 75 8).bind fun (m4 : dM) => (fI m4 71 4 (rI m4 10 4)).bind fun (m5 : dM) => some m5
set_option maxRecDepth 20000 in
theorem w_28_71_10 {X : Nat × (Nat → Int32)} {d : Nat} {m : dM} {r : dM} (hD : D28_71_10 m = some r) : ax_Ev X (d + 1) 18 [.ref 71, .ref 10] (stt m) (.inl none) (stt r) := by
  unfold D28_71_10 at hD
  show ax_Wp X (d + 0 + 1) 18 (0, [some (.ref 71), some (.ref 10)], []) (stt m) _
  refine ax_Wp.go (f' := (12, [some (.ref 71), some (.ref 10)], [.int (nI 8), .int (nI 0), .ref 72, .int (nI 0), .ref 11])) 7 rfl ?_
  refine ax_Wp.cpI (S' := []) hD rfl rfl (fun _ => rfl) (fun m1 hD => ?_)
  refine ax_Wp.go (f' := (27, [some (.ref 71), some (.ref 10)], [.int (nI 8), .int (nI 0), .ref 73, .int (nI 0), .ref 12])) 7 rfl ?_
  refine ax_Wp.cpI (S' := []) hD rfl rfl (fun _ => rfl) (fun m2 hD => ?_)
  refine ax_Wp.go (f' := (42, [some (.ref 71), some (.ref 10)], [.int (nI 8), .int (nI 0), .ref 74, .int (nI 0), .ref 13])) 7 rfl ?_
  refine ax_Wp.cpI (S' := []) hD rfl rfl (fun _ => rfl) (fun m3 hD => ?_)
  refine ax_Wp.go (f' := (57, [some (.ref 71), some (.ref 10)], [.int (nI 8), .int (nI 0), .ref 75, .int (nI 0), .ref 14])) 7 rfl ?_
  refine ax_Wp.cpI (S' := []) hD rfl rfl (fun _ => rfl) (fun m4 hD => ?_)
  refine ax_Wp.go (f' := (65, [some (.ref 71), some (.ref 10)], [.int (rI m4 10 4), .ref 71])) 3 rfl ?_
  refine ax_Wp.ptI hD rfl rfl rfl (fun m5 hD => ?_)
  obtain rfl := inj hD
  exact ax_Wp.ret rfl ⟨rfl, rfl⟩
def D22_76_15 (m : dM) : Option (dM) := (kL m 16 77 61).bind fun (m1 : dM) => (fI m1 76 1 (rI m1 15 1)).bind fun (m2 : dM) => some m2
set_option maxRecDepth 20000 in
theorem w_22_76_15 {X : Nat × (Nat → Int32)} {d : Nat} {m : dM} {r : dM} (hD : D22_76_15 m = some r) : ax_Ev X (d + 1) 12 [.ref 76, .ref 15] (stt m) (.inl none) (stt r) := by
  unfold D22_76_15 at hD
  show ax_Wp X (d + 0 + 1) 12 (0, [some (.ref 76), some (.ref 15)], []) (stt m) _
  refine ax_Wp.go (f' := (12, [some (.ref 76), some (.ref 15)], [.int (nI 61), .int (nI 0), .ref 77, .int (nI 0), .ref 16])) 7 rfl ?_
  refine ax_Wp.cpL (S' := []) hD rfl rfl (fun _ => rfl) (fun m1 hD => ?_)
  refine ax_Wp.go (f' := (20, [some (.ref 76), some (.ref 15)], [.int (rI m1 15 1), .ref 76])) 3 rfl ?_
  refine ax_Wp.ptI hD rfl rfl rfl (fun m2 hD => ?_)
  obtain rfl := inj hD
  exact ax_Wp.ret rfl ⟨rfl, rfl⟩
def D41_62_1 (m : dM) : Option (dM) := (D58_63_2 m).bind fun (r1 : dM) => (D1_66_5 r1).bind fun (r2 : dM) => (D28_71_10 r2).bind fun (r3 : dM) => (D22_76_15 r3).bind fun (r4 : dM) => (kI r4 17 78 2).bind fun (m5 : dM) => (fI m5 62 5 (rI m5 1 5)).bind fun (m6 : dM) => (fI m6 62 6 (rI m6 1 6)).bind fun (m7 : dM) => (fI m7 62 7 (rI m7 1 7)).bind fun (m8 : dM) => (fI m8 62 8 (rI m8 1 8)).bind fun (m9 : dM) => (fI m9 62 9 (rI m9 1 9)).bind fun (m10 : dM) => some m10
set_option maxRecDepth 20000 in
theorem w_41_62_1 {X : Nat × (Nat → Int32)} {d : Nat} {m : dM} {r : dM} (hD : D41_62_1 m = some r) : ax_Ev X (d + 2) 31 [.ref 62, .ref 1] (stt m) (.inl none) (stt r) := by
  unfold D41_62_1 at hD
  show ax_Wp X (d + 1 + 1) 31 (0, [some (.ref 62), some (.ref 1)], []) (stt m) _
  refine ax_Wp.go (f' := (8, [some (.ref 62), some (.ref 1)], [.ref 2, .ref 63])) 4 rfl ?_
  refine bnd hD (fun r1 hx hD => ?_)
  refine ax_Wp.callE (f' := (11, [some (.ref 62), some (.ref 1)], [])) rfl rfl (w_58_63_2 (d := d + 0) hx) rfl ?_
  refine ax_Wp.go (f' := (19, [some (.ref 62), some (.ref 1)], [.ref 5, .ref 66])) 4 rfl ?_
  refine bnd hD (fun r2 hx hD => ?_)
  refine ax_Wp.callE (f' := (22, [some (.ref 62), some (.ref 1)], [])) rfl rfl (w_1_66_5 (d := d + 0) hx) rfl ?_
  refine ax_Wp.go (f' := (30, [some (.ref 62), some (.ref 1)], [.ref 10, .ref 71])) 4 rfl ?_
  refine bnd hD (fun r3 hx hD => ?_)
  refine ax_Wp.callE (f' := (33, [some (.ref 62), some (.ref 1)], [])) rfl rfl (w_28_71_10 (d := d + 0) hx) rfl ?_
  refine ax_Wp.go (f' := (41, [some (.ref 62), some (.ref 1)], [.ref 15, .ref 76])) 4 rfl ?_
  refine bnd hD (fun r4 hx hD => ?_)
  refine ax_Wp.callE (f' := (44, [some (.ref 62), some (.ref 1)], [])) rfl rfl (w_22_76_15 (d := d + 0) hx) rfl ?_
  refine ax_Wp.go (f' := (55, [some (.ref 62), some (.ref 1)], [.int (nI 2), .int (nI 0), .ref 78, .int (nI 0), .ref 17])) 7 rfl ?_
  refine ax_Wp.cpI (S' := []) hD rfl rfl (fun _ => rfl) (fun m5 hD => ?_)
  refine ax_Wp.go (f' := (63, [some (.ref 62), some (.ref 1)], [.int (rI m5 1 5), .ref 62])) 3 rfl ?_
  refine ax_Wp.ptI hD rfl rfl rfl (fun m6 hD => ?_)
  refine ax_Wp.go (f' := (71, [some (.ref 62), some (.ref 1)], [.int (rI m6 1 6), .ref 62])) 3 rfl ?_
  refine ax_Wp.ptI hD rfl rfl rfl (fun m7 hD => ?_)
  refine ax_Wp.go (f' := (79, [some (.ref 62), some (.ref 1)], [.int (rI m7 1 7), .ref 62])) 3 rfl ?_
  refine ax_Wp.ptI hD rfl rfl rfl (fun m8 hD => ?_)
  refine ax_Wp.go (f' := (87, [some (.ref 62), some (.ref 1)], [.int (rI m8 1 8), .ref 62])) 3 rfl ?_
  refine ax_Wp.ptI hD rfl rfl rfl (fun m9 hD => ?_)
  refine ax_Wp.go (f' := (95, [some (.ref 62), some (.ref 1)], [.int (rI m9 1 9), .ref 62])) 3 rfl ?_
  refine ax_Wp.ptI hD rfl rfl rfl (fun m10 hD => ?_)
  obtain rfl := inj hD
  exact ax_Wp.ret rfl ⟨rfl, rfl⟩
def D58_80_2 (m : dM) : Option (dM) := (kI m 3 81 24).bind fun (m1 : dM) => (kI m1 4 82 24).bind fun (m2 : dM) => (fI m2 80 2 (rI m2 2 2)).bind fun (m3 : dM) => (fI m3 80 3 (rI m3 2 3)).bind fun (m4 : dM) => (fI m4 80 4 (rI m4 2 4)).bind fun (m5 : dM) => some m5
set_option maxRecDepth 20000 in
theorem w_58_80_2 {X : Nat × (Nat → Int32)} {d : Nat} {m : dM} {r : dM} (hD : D58_80_2 m = some r) : ax_Ev X (d + 1) 46 [.ref 80, .ref 2] (stt m) (.inl none) (stt r) := by
  unfold D58_80_2 at hD
  show ax_Wp X (d + 0 + 1) 46 (0, [some (.ref 80), some (.ref 2)], []) (stt m) _
  refine ax_Wp.go (f' := (12, [some (.ref 80), some (.ref 2)], [.int (nI 24), .int (nI 0), .ref 81, .int (nI 0), .ref 3])) 7 rfl ?_
  refine ax_Wp.cpI (S' := []) hD rfl rfl (fun _ => rfl) (fun m1 hD => ?_)
  refine ax_Wp.go (f' := (27, [some (.ref 80), some (.ref 2)], [.int (nI 24), .int (nI 0), .ref 82, .int (nI 0), .ref 4])) 7 rfl ?_
  refine ax_Wp.cpI (S' := []) hD rfl rfl (fun _ => rfl) (fun m2 hD => ?_)
  refine ax_Wp.go (f' := (35, [some (.ref 80), some (.ref 2)], [.int (rI m2 2 2), .ref 80])) 3 rfl ?_
  refine ax_Wp.ptI hD rfl rfl rfl (fun m3 hD => ?_)
  refine ax_Wp.go (f' := (43, [some (.ref 80), some (.ref 2)], [.int (rI m3 2 3), .ref 80])) 3 rfl ?_
  refine ax_Wp.ptI hD rfl rfl rfl (fun m4 hD => ?_)
  refine ax_Wp.go (f' := (51, [some (.ref 80), some (.ref 2)], [.int (rI m4 2 4), .ref 80])) 3 rfl ?_
  refine ax_Wp.ptI hD rfl rfl rfl (fun m5 hD => ?_)
  obtain rfl := inj hD
  exact ax_Wp.ret rfl ⟨rfl, rfl⟩
def D1_83_5 (m : dM) : Option (dM) := (kI m 6 84 4).bind fun (m1 : dM) => (kI m1 7 85 4).bind fun (m2 : dM) => (kI m2 8 86 4).bind fun (m3 : dM) => (kI m3 9 87 4).bind fun (m4 : dM) => (fI m4 83 4 (rI m4 5 4)).bind fun (m5 : dM) => some m5
set_option maxRecDepth 20000 in
theorem w_1_83_5 {X : Nat × (Nat → Int32)} {d : Nat} {m : dM} {r : dM} (hD : D1_83_5 m = some r) : ax_Ev X (d + 1) 1 [.ref 83, .ref 5] (stt m) (.inl none) (stt r) := by
  unfold D1_83_5 at hD
  show ax_Wp X (d + 0 + 1) 1 (0, [some (.ref 83), some (.ref 5)], []) (stt m) _
  refine ax_Wp.go (f' := (11, [some (.ref 83), some (.ref 5)], [.int (nI 4), .int (nI 0), .ref 84, .int (nI 0), .ref 6])) 7 rfl ?_
  refine ax_Wp.cpI (S' := []) hD rfl rfl (fun _ => rfl) (fun m1 hD => ?_)
  refine ax_Wp.go (f' := (25, [some (.ref 83), some (.ref 5)], [.int (nI 4), .int (nI 0), .ref 85, .int (nI 0), .ref 7])) 7 rfl ?_
  refine ax_Wp.cpI (S' := []) hD rfl rfl (fun _ => rfl) (fun m2 hD => ?_)
  refine ax_Wp.go (f' := (39, [some (.ref 83), some (.ref 5)], [.int (nI 4), .int (nI 0), .ref 86, .int (nI 0), .ref 8])) 7 rfl ?_
  refine ax_Wp.cpI (S' := []) hD rfl rfl (fun _ => rfl) (fun m3 hD => ?_)
  refine ax_Wp.go (f' := (53, [some (.ref 83), some (.ref 5)], [.int (nI 4), .int (nI 0), .ref 87, .int (nI 0), .ref 9])) 7 rfl ?_
  refine ax_Wp.cpI (S' := []) hD rfl rfl (fun _ => rfl) (fun m4 hD => ?_)
  refine ax_Wp.go (f' := (61, [some (.ref 83), some (.ref 5)], [.int (rI m4 5 4), .ref 83])) 3 rfl ?_
  refine ax_Wp.ptI hD rfl rfl rfl (fun m5 hD => ?_)
  obtain rfl := inj hD
  exact ax_Wp.ret rfl ⟨rfl, rfl⟩
def D28_88_10 (m : dM) : Option (dM) := (kI m 11 89 8).bind fun (m1 : dM) => (kI m1 12 90 8).bind fun (m2 : dM) => (kI m2 13 91 8).bind fun (m3 : dM) => (kI m3 14 92 8).bind fun (m4 : dM) => (fI m4 88 4 (rI m4 10 4)).bind fun (m5 : dM) => some m5
set_option maxRecDepth 20000 in
theorem w_28_88_10 {X : Nat × (Nat → Int32)} {d : Nat} {m : dM} {r : dM} (hD : D28_88_10 m = some r) : ax_Ev X (d + 1) 18 [.ref 88, .ref 10] (stt m) (.inl none) (stt r) := by
  unfold D28_88_10 at hD
  show ax_Wp X (d + 0 + 1) 18 (0, [some (.ref 88), some (.ref 10)], []) (stt m) _
  refine ax_Wp.go (f' := (12, [some (.ref 88), some (.ref 10)], [.int (nI 8), .int (nI 0), .ref 89, .int (nI 0), .ref 11])) 7 rfl ?_
  refine ax_Wp.cpI (S' := []) hD rfl rfl (fun _ => rfl) (fun m1 hD => ?_)
  refine ax_Wp.go (f' := (27, [some (.ref 88), some (.ref 10)], [.int (nI 8), .int (nI 0), .ref 90, .int (nI 0), .ref 12])) 7 rfl ?_
  refine ax_Wp.cpI (S' := []) hD rfl rfl (fun _ => rfl) (fun m2 hD => ?_)
  refine ax_Wp.go (f' := (42, [some (.ref 88), some (.ref 10)], [.int (nI 8), .int (nI 0), .ref 91, .int (nI 0), .ref 13])) 7 rfl ?_
  refine ax_Wp.cpI (S' := []) hD rfl rfl (fun _ => rfl) (fun m3 hD => ?_)
  refine ax_Wp.go (f' := (57, [some (.ref 88), some (.ref 10)], [.int (nI 8), .int (nI 0), .ref 92, .int (nI 0), .ref 14])) 7 rfl ?_
  refine ax_Wp.cpI (S' := []) hD rfl rfl (fun _ => rfl) (fun m4 hD => ?_)
  refine ax_Wp.go (f' := (65, [some (.ref 88), some (.ref 10)], [.int (rI m4 10 4), .ref 88])) 3 rfl ?_
  refine ax_Wp.ptI hD rfl rfl rfl (fun m5 hD => ?_)
  obtain rfl := inj hD
  exact ax_Wp.ret rfl ⟨rfl, rfl⟩
def D22_93_15 (m : dM) : Option (dM) := (kL m 16 94 61).bind fun (m1 : dM) => (fI m1 93 1 (rI m1 15 1)).bind fun (m2 : dM) => some m2
set_option maxRecDepth 20000 in
theorem w_22_93_15 {X : Nat × (Nat → Int32)} {d : Nat} {m : dM} {r : dM} (hD : D22_93_15 m = some r) : ax_Ev X (d + 1) 12 [.ref 93, .ref 15] (stt m) (.inl none) (stt r) := by
  unfold D22_93_15 at hD
  show ax_Wp X (d + 0 + 1) 12 (0, [some (.ref 93), some (.ref 15)], []) (stt m) _
  refine ax_Wp.go (f' := (12, [some (.ref 93), some (.ref 15)], [.int (nI 61), .int (nI 0), .ref 94, .int (nI 0), .ref 16])) 7 rfl ?_
  refine ax_Wp.cpL (S' := []) hD rfl rfl (fun _ => rfl) (fun m1 hD => ?_)
  refine ax_Wp.go (f' := (20, [some (.ref 93), some (.ref 15)], [.int (rI m1 15 1), .ref 93])) 3 rfl ?_
  refine ax_Wp.ptI hD rfl rfl rfl (fun m2 hD => ?_)
  obtain rfl := inj hD
  exact ax_Wp.ret rfl ⟨rfl, rfl⟩
def D41_79_1 (m : dM) : Option (dM) := (D58_80_2 m).bind fun (r1 : dM) => (D1_83_5 r1).bind fun (r2 : dM) => (D28_88_10 r2).bind fun (r3 : dM) => (D22_93_15 r3).bind fun (r4 : dM) => (kI r4 17 95 2).bind fun (m5 : dM) => (fI m5 79 5 (rI m5 1 5)).bind fun (m6 : dM) => (fI m6 79 6 (rI m6 1 6)).bind fun (m7 : dM) => (fI m7 79 7 (rI m7 1 7)).bind fun (m8 : dM) => (fI m8 79 8 (rI m8 1 8)).bind fun (m9 : dM) => (fI m9 79 9 (rI m9 1 9)).bind fun (m10 : dM) => some m10
set_option maxRecDepth 20000 in
theorem w_41_79_1 {X : Nat × (Nat → Int32)} {d : Nat} {m : dM} {r : dM} (hD : D41_79_1 m = some r) : ax_Ev X (d + 2) 31 [.ref 79, .ref 1] (stt m) (.inl none) (stt r) := by
  unfold D41_79_1 at hD
  show ax_Wp X (d + 1 + 1) 31 (0, [some (.ref 79), some (.ref 1)], []) (stt m) _
  refine ax_Wp.go (f' := (8, [some (.ref 79), some (.ref 1)], [.ref 2, .ref 80])) 4 rfl ?_
  refine bnd hD (fun r1 hx hD => ?_)
  refine ax_Wp.callE (f' := (11, [some (.ref 79), some (.ref 1)], [])) rfl rfl (w_58_80_2 (d := d + 0) hx) rfl ?_
  refine ax_Wp.go (f' := (19, [some (.ref 79), some (.ref 1)], [.ref 5, .ref 83])) 4 rfl ?_
  refine bnd hD (fun r2 hx hD => ?_)
  refine ax_Wp.callE (f' := (22, [some (.ref 79), some (.ref 1)], [])) rfl rfl (w_1_83_5 (d := d + 0) hx) rfl ?_
  refine ax_Wp.go (f' := (30, [some (.ref 79), some (.ref 1)], [.ref 10, .ref 88])) 4 rfl ?_
  refine bnd hD (fun r3 hx hD => ?_)
  refine ax_Wp.callE (f' := (33, [some (.ref 79), some (.ref 1)], [])) rfl rfl (w_28_88_10 (d := d + 0) hx) rfl ?_
  refine ax_Wp.go (f' := (41, [some (.ref 79), some (.ref 1)], [.ref 15, .ref 93])) 4 rfl ?_
  refine bnd hD (fun r4 hx hD => ?_)
  refine ax_Wp.callE (f' := (44, [some (.ref 79), some (.ref 1)], [])) rfl rfl (w_22_93_15 (d := d + 0) hx) rfl ?_
  refine ax_Wp.go (f' := (55, [some (.ref 79), some (.ref 1)], [.int (nI 2), .int (nI 0), .ref 95, .int (nI 0), .ref 17])) 7 rfl ?_
  refine ax_Wp.cpI (S' := []) hD rfl rfl (fun _ => rfl) (fun m5 hD => ?_)
  refine ax_Wp.go (f' := (63, [some (.ref 79), some (.ref 1)], [.int (rI m5 1 5), .ref 79])) 3 rfl ?_
  refine ax_Wp.ptI hD rfl rfl rfl (fun m6 hD => ?_)
  refine ax_Wp.go (f' := (71, [some (.ref 79), some (.ref 1)], [.int (rI m6 1 6), .ref 79])) 3 rfl ?_
  refine ax_Wp.ptI hD rfl rfl rfl (fun m7 hD => ?_)
  refine ax_Wp.go (f' := (79, [some (.ref 79), some (.ref 1)], [.int (rI m7 1 7), .ref 79])) 3 rfl ?_
  refine ax_Wp.ptI hD rfl rfl rfl (fun m8 hD => ?_)
  refine ax_Wp.go (f' := (87, [some (.ref 79), some (.ref 1)], [.int (rI m8 1 8), .ref 79])) 3 rfl ?_
  refine ax_Wp.ptI hD rfl rfl rfl (fun m9 hD => ?_)
  refine ax_Wp.go (f' := (95, [some (.ref 79), some (.ref 1)], [.int (rI m9 1 9), .ref 79])) 3 rfl ?_
  refine ax_Wp.ptI hD rfl rfl rfl (fun m10 hD => ?_)
  obtain rfl := inj hD
  exact ax_Wp.ret rfl ⟨rfl, rfl⟩
def D58_97_2 (m : dM) : Option (dM) := (kI m 3 98 24).bind fun (m1 : dM) => (kI m1 4 99 24).bind fun (m2 : dM) => (fI m2 97 2 (rI m2 2 2)).bind fun (m3 : dM) => (fI m3 97 3 (rI m3 2 3)).bind fun (m4 : dM) => (fI m4 97 4 (rI m4 2 4)).bind fun (m5 : dM) => some m5
set_option maxRecDepth 20000 in
theorem w_58_97_2 {X : Nat × (Nat → Int32)} {d : Nat} {m : dM} {r : dM} (hD : D58_97_2 m = some r) : ax_Ev X (d + 1) 46 [.ref 97, .ref 2] (stt m) (.inl none) (stt r) := by
  unfold D58_97_2 at hD
  show ax_Wp X (d + 0 + 1) 46 (0, [some (.ref 97), some (.ref 2)], []) (stt m) _
  refine ax_Wp.go (f' := (12, [some (.ref 97), some (.ref 2)], [.int (nI 24), .int (nI 0), .ref 98, .int (nI 0), .ref 3])) 7 rfl ?_
  refine ax_Wp.cpI (S' := []) hD rfl rfl (fun _ => rfl) (fun m1 hD => ?_)
  refine ax_Wp.go (f' := (27, [some (.ref 97), some (.ref 2)], [.int (nI 24), .int (nI 0), .ref 99, .int (nI 0), .ref 4])) 7 rfl ?_
  refine ax_Wp.cpI (S' := []) hD rfl rfl (fun _ => rfl) (fun m2 hD => ?_)
  refine ax_Wp.go (f' := (35, [some (.ref 97), some (.ref 2)], [.int (rI m2 2 2), .ref 97])) 3 rfl ?_
  refine ax_Wp.ptI hD rfl rfl rfl (fun m3 hD => ?_)
  refine ax_Wp.go (f' := (43, [some (.ref 97), some (.ref 2)], [.int (rI m3 2 3), .ref 97])) 3 rfl ?_
  refine ax_Wp.ptI hD rfl rfl rfl (fun m4 hD => ?_)
  refine ax_Wp.go (f' := (51, [some (.ref 97), some (.ref 2)], [.int (rI m4 2 4), .ref 97])) 3 rfl ?_
  refine ax_Wp.ptI hD rfl rfl rfl (fun m5 hD => ?_)
  obtain rfl := inj hD
  exact ax_Wp.ret rfl ⟨rfl, rfl⟩
def D1_100_5 (m : dM) : Option (dM) := (kI m 6 101 4).bind fun (m1 : dM) => (kI m1 7 102 4).bind fun (m2 : dM) => (kI m2 8 103 4).bind fun (m3 : dM) => (kI m3 9 104 4).bind fun (m4 : dM) => (fI m4 100 4 (rI m4 5 4)).bind fun (m5 : dM) => some m5
set_option maxRecDepth 20000 in
theorem w_1_100_5 {X : Nat × (Nat → Int32)} {d : Nat} {m : dM} {r : dM} (hD : D1_100_5 m = some r) : ax_Ev X (d + 1) 1 [.ref 100, .ref 5] (stt m) (.inl none) (stt r) := by
  unfold D1_100_5 at hD
  show ax_Wp X (d + 0 + 1) 1 (0, [some (.ref 100), some (.ref 5)], []) (stt m) _
  refine ax_Wp.go (f' := (11, [some (.ref 100), some (.ref 5)], [.int (nI 4), .int (nI 0), .ref 101, .int (nI 0), .ref 6])) 7 rfl ?_
  refine ax_Wp.cpI (S' := []) hD rfl rfl (fun _ => rfl) (fun m1 hD => ?_)
  refine ax_Wp.go (f' := (25, [some (.ref 100), some (.ref 5)], [.int (nI 4), .int (nI 0), .ref 102, .int (nI 0), .ref 7])) 7 rfl ?_
  refine ax_Wp.cpI (S' := []) hD rfl rfl (fun _ => rfl) (fun m2 hD => ?_)
  refine ax_Wp.go (f' := (39, [some (.ref 100), some (.ref 5)], [.int (nI 4), .int (nI 0), .ref 103, .int (nI 0), .ref 8])) 7 rfl ?_
  refine ax_Wp.cpI (S' := []) hD rfl rfl (fun _ => rfl) (fun m3 hD => ?_)
  refine ax_Wp.go (f' := (53, [some (.ref 100), some (.ref 5)], [.int (nI 4), .int (nI 0), .ref 104, .int (nI 0), .ref 9])) 7 rfl ?_
  refine ax_Wp.cpI (S' := []) hD rfl rfl (fun _ => rfl) (fun m4 hD => ?_)
  refine ax_Wp.go (f' := (61, [some (.ref 100), some (.ref 5)], [.int (rI m4 5 4), .ref 100])) 3 rfl ?_
  refine ax_Wp.ptI hD rfl rfl rfl (fun m5 hD => ?_)
  obtain rfl := inj hD
  exact ax_Wp.ret rfl ⟨rfl, rfl⟩
def D28_105_10 (m : dM) : Option (dM) := (kI m 11 106 8).bind fun (m1 : dM) => (kI m1 12 107 8).bind fun (m2 : dM) => (kI m2 13 108 8).bind fun (m3 : dM) => (kI m3 14 109 8).bind fun (m4 : dM) => (fI m4 105 4 (rI m4 10 4)).bind fun (m5 : dM) => some m5
set_option maxRecDepth 20000 in
theorem w_28_105_10 {X : Nat × (Nat → Int32)} {d : Nat} {m : dM} {r : dM} (hD : D28_105_10 m = some r) : ax_Ev X (d + 1) 18 [.ref 105, .ref 10] (stt m) (.inl none) (stt r) := by
  unfold D28_105_10 at hD
  show ax_Wp X (d + 0 + 1) 18 (0, [some (.ref 105), some (.ref 10)], []) (stt m) _
  refine ax_Wp.go (f' := (12, [some (.ref 105), some (.ref 10)], [.int (nI 8), .int (nI 0), .ref 106, .int (nI 0), .ref 11])) 7 rfl ?_
  refine ax_Wp.cpI (S' := []) hD rfl rfl (fun _ => rfl) (fun m1 hD => ?_)
  refine ax_Wp.go (f' := (27, [some (.ref 105), some (.ref 10)], [.int (nI 8), .int (nI 0), .ref 107, .int (nI 0), .ref 12])) 7 rfl ?_
  refine ax_Wp.cpI (S' := []) hD rfl rfl (fun _ => rfl) (fun m2 hD => ?_)
  refine ax_Wp.go (f' := (42, [some (.ref 105), some (.ref 10)], [.int (nI 8), .int (nI 0), .ref 108, .int (nI 0), .ref 13])) 7 rfl ?_
  refine ax_Wp.cpI (S' := []) hD rfl rfl (fun _ => rfl) (fun m3 hD => ?_)
  refine ax_Wp.go (f' := (57, [some (.ref 105), some (.ref 10)], [.int (nI 8), .int (nI 0), .ref 109, .int (nI 0), .ref 14])) 7 rfl ?_
  refine ax_Wp.cpI (S' := []) hD rfl rfl (fun _ => rfl) (fun m4 hD => ?_)
  refine ax_Wp.go (f' := (65, [some (.ref 105), some (.ref 10)], [.int (rI m4 10 4), .ref 105])) 3 rfl ?_
  refine ax_Wp.ptI hD rfl rfl rfl (fun m5 hD => ?_)
  obtain rfl := inj hD
  exact ax_Wp.ret rfl ⟨rfl, rfl⟩
def D22_110_15 (m : dM) : Option (dM) := (kL m 16 111 61).bind fun (m1 : dM) => (fI m1 110 1 (rI m1 15 1)).bind fun (m2 : dM) => some m2
set_option maxRecDepth 20000 in
theorem w_22_110_15 {X : Nat × (Nat → Int32)} {d : Nat} {m : dM} {r : dM} (hD : D22_110_15 m = some r) : ax_Ev X (d + 1) 12 [.ref 110, .ref 15] (stt m) (.inl none) (stt r) := by
  unfold D22_110_15 at hD
  show ax_Wp X (d + 0 + 1) 12 (0, [some (.ref 110), some (.ref 15)], []) (stt m) _
  refine ax_Wp.go (f' := (12, [some (.ref 110), some (.ref 15)], [.int (nI 61), .int (nI 0), .ref 111, .int (nI 0), .ref 16])) 7 rfl ?_
  refine ax_Wp.cpL (S' := []) hD rfl rfl (fun _ => rfl) (fun m1 hD => ?_)
  refine ax_Wp.go (f' := (20, [some (.ref 110), some (.ref 15)], [.int (rI m1 15 1), .ref 110])) 3 rfl ?_
  refine ax_Wp.ptI hD rfl rfl rfl (fun m2 hD => ?_)
  obtain rfl := inj hD
  exact ax_Wp.ret rfl ⟨rfl, rfl⟩
def D41_96_1 (m : dM) : Option (dM) := (D58_97_2 m).bind fun (r1 : dM) => (D1_100_5 r1).bind fun (r2 : dM) => (D28_105_10 r2).bind fun (r3 : dM) => (D22_110_15 r3).bind fun (r4 : dM) => (kI r4 17 112 2).bind fun (m5 : dM) => (fI m5 96 5 (rI m5 1 5)).bind fun (m6 : dM) => (fI m6 96 6 (rI m6 1 6)).bind fun (m7 : dM) => (fI m7 96 7 (rI m7 1 7)).bind fun (m8 : dM) => (fI m8 96 8 (rI m8 1 8)).bind fun (m9 : dM) => (fI m9 96 9 (rI m9 1 9)).bind fun (m10 : dM) => some m10
set_option maxRecDepth 20000 in
theorem w_41_96_1 {X : Nat × (Nat → Int32)} {d : Nat} {m : dM} {r : dM} (hD : D41_96_1 m = some r) : ax_Ev X (d + 2) 31 [.ref 96, .ref 1] (stt m) (.inl none) (stt r) := by
  unfold D41_96_1 at hD
  show ax_Wp X (d + 1 + 1) 31 (0, [some (.ref 96), some (.ref 1)], []) (stt m) _
  refine ax_Wp.go (f' := (8, [some (.ref 96), some (.ref 1)], [.ref 2, .ref 97])) 4 rfl ?_
  refine bnd hD (fun r1 hx hD => ?_)
  refine ax_Wp.callE (f' := (11, [some (.ref 96), some (.ref 1)], [])) rfl rfl (w_58_97_2 (d := d + 0) hx) rfl ?_
  refine ax_Wp.go (f' := (19, [some (.ref 96), some (.ref 1)], [.ref 5, .ref 100])) 4 rfl ?_
  refine bnd hD (fun r2 hx hD => ?_)
  refine ax_Wp.callE (f' := (22, [some (.ref 96), some (.ref 1)], [])) rfl rfl (w_1_100_5 (d := d + 0) hx) rfl ?_
  refine ax_Wp.go (f' := (30, [some (.ref 96), some (.ref 1)], [.ref 10, .ref 105])) 4 rfl ?_
  refine bnd hD (fun r3 hx hD => ?_)
  refine ax_Wp.callE (f' := (33, [some (.ref 96), some (.ref 1)], [])) rfl rfl (w_28_105_10 (d := d + 0) hx) rfl ?_
  refine ax_Wp.go (f' := (41, [some (.ref 96), some (.ref 1)], [.ref 15, .ref 110])) 4 rfl ?_
  refine bnd hD (fun r4 hx hD => ?_)
  refine ax_Wp.callE (f' := (44, [some (.ref 96), some (.ref 1)], [])) rfl rfl (w_22_110_15 (d := d + 0) hx) rfl ?_
  refine ax_Wp.go (f' := (55, [some (.ref 96), some (.ref 1)], [.int (nI 2), .int (nI 0), .ref 112, .int (nI 0), .ref 17])) 7 rfl ?_
  refine ax_Wp.cpI (S' := []) hD rfl rfl (fun _ => rfl) (fun m5 hD => ?_)
  refine ax_Wp.go (f' := (63, [some (.ref 96), some (.ref 1)], [.int (rI m5 1 5), .ref 96])) 3 rfl ?_
  refine ax_Wp.ptI hD rfl rfl rfl (fun m6 hD => ?_)
  refine ax_Wp.go (f' := (71, [some (.ref 96), some (.ref 1)], [.int (rI m6 1 6), .ref 96])) 3 rfl ?_
  refine ax_Wp.ptI hD rfl rfl rfl (fun m7 hD => ?_)
  refine ax_Wp.go (f' := (79, [some (.ref 96), some (.ref 1)], [.int (rI m7 1 7), .ref 96])) 3 rfl ?_
  refine ax_Wp.ptI hD rfl rfl rfl (fun m8 hD => ?_)
  refine ax_Wp.go (f' := (87, [some (.ref 96), some (.ref 1)], [.int (rI m8 1 8), .ref 96])) 3 rfl ?_
  refine ax_Wp.ptI hD rfl rfl rfl (fun m9 hD => ?_)
  refine ax_Wp.go (f' := (95, [some (.ref 96), some (.ref 1)], [.int (rI m9 1 9), .ref 96])) 3 rfl ?_
  refine ax_Wp.ptI hD rfl rfl rfl (fun m10 hD => ?_)
  obtain rfl := inj hD
  exact ax_Wp.ret rfl ⟨rfl, rfl⟩
def D58_114_2 (m : dM) : Option (dM) := (kI m 3 115 24).bind fun (m1 : dM) => (kI m1 4 116 24).bind fun (m2 : dM) => (fI m2 114 2 (rI m2 2 2)).bind fun (m3 : dM) => (fI m3 114 3 (rI m3 2 3)).bind fun (m4 : dM) => (fI m4 114 4 (rI m4 2 4)).bind fun (m5 : dM) => some m5
set_option maxRecDepth 20000 in
theorem w_58_114_2 {X : Nat × (Nat → Int32)} {d : Nat} {m : dM} {r : dM} (hD : D58_114_2 m = some r) : ax_Ev X (d + 1) 46 [.ref 114, .ref 2] (stt m) (.inl none) (stt r) := by
  unfold D58_114_2 at hD
  show ax_Wp X (d + 0 + 1) 46 (0, [some (.ref 114), some (.ref 2)], []) (stt m) _
  refine ax_Wp.go (f' := (12, [some (.ref 114), some (.ref 2)], [.int (nI 24), .int (nI 0), .ref 115, .int (nI 0), .ref 3])) 7 rfl ?_
  refine ax_Wp.cpI (S' := []) hD rfl rfl (fun _ => rfl) (fun m1 hD => ?_)
  refine ax_Wp.go (f' := (27, [some (.ref 114), some (.ref 2)], [.int (nI 24), .int (nI 0), .ref 116, .int (nI 0), .ref 4])) 7 rfl ?_
  refine ax_Wp.cpI (S' := []) hD rfl rfl (fun _ => rfl) (fun m2 hD => ?_)
  refine ax_Wp.go (f' := (35, [some (.ref 114), some (.ref 2)], [.int (rI m2 2 2), .ref 114])) 3 rfl ?_
  refine ax_Wp.ptI hD rfl rfl rfl (fun m3 hD => ?_)
  refine ax_Wp.go (f' := (43, [some (.ref 114), some (.ref 2)], [.int (rI m3 2 3), .ref 114])) 3 rfl ?_
  refine ax_Wp.ptI hD rfl rfl rfl (fun m4 hD => ?_)
  refine ax_Wp.go (f' := (51, [some (.ref 114), some (.ref 2)], [.int (rI m4 2 4), .ref 114])) 3 rfl ?_
  refine ax_Wp.ptI hD rfl rfl rfl (fun m5 hD => ?_)
  obtain rfl := inj hD
  exact ax_Wp.ret rfl ⟨rfl, rfl⟩
def D1_117_5 (m : dM) : Option (dM) := (kI m 6 118 4).bind fun (m1 : dM) => (kI m1 7 119 4).bind fun (m2 : dM) => (kI m2 8 120 4).bind fun (m3 : dM) => (kI m3 9 121 4).bind fun (m4 : dM) => (fI m4 117 4 (rI m4 5 4)).bind fun (m5 : dM) => some m5
set_option maxRecDepth 20000 in
theorem w_1_117_5 {X : Nat × (Nat → Int32)} {d : Nat} {m : dM} {r : dM} (hD : D1_117_5 m = some r) : ax_Ev X (d + 1) 1 [.ref 117, .ref 5] (stt m) (.inl none) (stt r) := by
  unfold D1_117_5 at hD
  show ax_Wp X (d + 0 + 1) 1 (0, [some (.ref 117), some (.ref 5)], []) (stt m) _
  refine ax_Wp.go (f' := (11, [some (.ref 117), some (.ref 5)], [.int (nI 4), .int (nI 0), .ref 118, .int (nI 0), .ref 6])) 7 rfl ?_
  refine ax_Wp.cpI (S' := []) hD rfl rfl (fun _ => rfl) (fun m1 hD => ?_)
  refine ax_Wp.go (f' := (25, [some (.ref 117), some (.ref 5)], [.int (nI 4), .int (nI 0), .ref 119, .int (nI 0), .ref 7])) 7 rfl ?_
  refine ax_Wp.cpI (S' := []) hD rfl rfl (fun _ => rfl) (fun m2 hD => ?_)
  refine ax_Wp.go (f' := (39, [some (.ref 117), some (.ref 5)], [.int (nI 4), .int (nI 0), .ref 120, .int (nI 0), .ref 8])) 7 rfl ?_
  refine ax_Wp.cpI (S' := []) hD rfl rfl (fun _ => rfl) (fun m3 hD => ?_)
  refine ax_Wp.go (f' := (53, [some (.ref 117), some (.ref 5)], [.int (nI 4), .int (nI 0), .ref 121, .int (nI 0), .ref 9])) 7 rfl ?_
  refine ax_Wp.cpI (S' := []) hD rfl rfl (fun _ => rfl) (fun m4 hD => ?_)
  refine ax_Wp.go (f' := (61, [some (.ref 117), some (.ref 5)], [.int (rI m4 5 4), .ref 117])) 3 rfl ?_
  refine ax_Wp.ptI hD rfl rfl rfl (fun m5 hD => ?_)
  obtain rfl := inj hD
  exact ax_Wp.ret rfl ⟨rfl, rfl⟩
def D28_122_10 (m : dM) : Option (dM) := (kI m 11 123 8).bind fun (m1 : dM) => (kI m1 12 124 8).bind fun (m2 : dM) => (kI m2 13 125 8).bind fun (m3 : dM) => (kI m3 14 126 8).bind fun (m4 : dM) => (fI m4 122 4 (rI m4 10 4)).bind fun (m5 : dM) => some m5
set_option maxRecDepth 20000 in
theorem w_28_122_10 {X : Nat × (Nat → Int32)} {d : Nat} {m : dM} {r : dM} (hD : D28_122_10 m = some r) : ax_Ev X (d + 1) 18 [.ref 122, .ref 10] (stt m) (.inl none) (stt r) := by
  unfold D28_122_10 at hD
  show ax_Wp X (d + 0 + 1) 18 (0, [some (.ref 122), some (.ref 10)], []) (stt m) _
  refine ax_Wp.go (f' := (12, [some (.ref 122), some (.ref 10)], [.int (nI 8), .int (nI 0), .ref 123, .int (nI 0), .ref 11])) 7 rfl ?_
  refine ax_Wp.cpI (S' := []) hD rfl rfl (fun _ => rfl) (fun m1 hD => ?_)
  refine ax_Wp.go (f' := (27, [some (.ref 122), some (.ref 10)], [.int (nI 8), .int (nI 0), .ref 124, .int (nI 0), .ref 12])) 7 rfl ?_
  refine ax_Wp.cpI (S' := []) hD rfl rfl (fun _ => rfl) (fun m2 hD => ?_)
  refine ax_Wp.go (f' := (42, [some (.ref 122), some (.ref 10)], [.int (nI 8), .int (nI 0), .ref 125, .int (nI 0), .ref 13])) 7 rfl ?_
  refine ax_Wp.cpI (S' := []) hD rfl rfl (fun _ => rfl) (fun m3 hD => ?_)
  refine ax_Wp.go (f' := (57, [some (.ref 122), some (.ref 10)], [.int (nI 8), .int (nI 0), .ref 126, .int (nI 0), .ref 14])) 7 rfl ?_
  refine ax_Wp.cpI (S' := []) hD rfl rfl (fun _ => rfl) (fun m4 hD => ?_)
  refine ax_Wp.go (f' := (65, [some (.ref 122), some (.ref 10)], [.int (rI m4 10 4), .ref 122])) 3 rfl ?_
  refine ax_Wp.ptI hD rfl rfl rfl (fun m5 hD => ?_)
  obtain rfl := inj hD
  exact ax_Wp.ret rfl ⟨rfl, rfl⟩
def D22_127_15 (m : dM) : Option (dM) := (kL m 16 128 61).bind fun (m1 : dM) => (fI m1 127 1 (rI m1 15 1)).bind fun (m2 : dM) => some m2
set_option maxRecDepth 20000 in
theorem w_22_127_15 {X : Nat × (Nat → Int32)} {d : Nat} {m : dM} {r : dM} (hD : D22_127_15 m = some r) : ax_Ev X (d + 1) 12 [.ref 127, .ref 15] (stt m) (.inl none) (stt r) := by
  unfold D22_127_15 at hD
  show ax_Wp X (d + 0 + 1) 12 (0, [some (.ref 127), some (.ref 15)], []) (stt m) _
  refine ax_Wp.go (f' := (12, [some (.ref 127), some (.ref 15)], [.int (nI 61), .int (nI 0), .ref 128, .int (nI 0), .ref 16])) 7 rfl ?_
  refine ax_Wp.cpL (S' := []) hD rfl rfl (fun _ => rfl) (fun m1 hD => ?_)
  refine ax_Wp.go (f' := (20, [some (.ref 127), some (.ref 15)], [.int (rI m1 15 1), .ref 127])) 3 rfl ?_
  refine ax_Wp.ptI hD rfl rfl rfl (fun m2 hD => ?_)
  obtain rfl := inj hD
  exact ax_Wp.ret rfl ⟨rfl, rfl⟩
def D41_113_1 (m : dM) : Option (dM) := (D58_114_2 m).bind fun (r1 : dM) => (D1_117_5 r1).bind fun (r2 : dM) => (D28_122_10 r2).bind fun (r3 : dM) => (D22_127_15 r3).bind fun (r4 : dM) => (kI r4 17 129 2).bind fun (m5 : dM) => (fI m5 113 5 (rI m5 1 5)).bind fun (m6 : dM) => (fI m6 113 6 (rI m6 1 6)).bind fun (m7 : dM) => (fI m7 113 7 (rI m7 1 7)).bind fun (m8 : dM) => (fI m8 113 8 (rI m8 1 8)).bind fun (m9 : dM) => (fI m9 113 9 (rI m9 1 9)).bind fun (m10 : dM) => some m10
set_option maxRecDepth 20000 in
theorem w_41_113_1 {X : Nat × (Nat → Int32)} {d : Nat} {m : dM} {r : dM} (hD : D41_113_1 m = some r) : ax_Ev X (d + 2) 31 [.ref 113, .ref 1] (stt m) (.inl none) (stt r) := by
  unfold D41_113_1 at hD
  show ax_Wp X (d + 1 + 1) 31 (0, [some (.ref 113), some (.ref 1)], []) (stt m) _
  refine ax_Wp.go (f' := (8, [some (.ref 113), some (.ref 1)], [.ref 2, .ref 114])) 4 rfl ?_
  refine bnd hD (fun r1 hx hD => ?_)
  refine ax_Wp.callE (f' := (11, [some (.ref 113), some (.ref 1)], [])) rfl rfl (w_58_114_2 (d := d + 0) hx) rfl ?_
  refine ax_Wp.go (f' := (19, [some (.ref 113), some (.ref 1)], [.ref 5, .ref 117])) 4 rfl ?_
  refine bnd hD (fun r2 hx hD => ?_)
  refine ax_Wp.callE (f' := (22, [some (.ref 113), some (.ref 1)], [])) rfl rfl (w_1_117_5 (d := d + 0) hx) rfl ?_
  refine ax_Wp.go (f' := (30, [some (.ref 113), some (.ref 1)], [.ref 10, .ref 122])) 4 rfl ?_
  refine bnd hD (fun r3 hx hD => ?_)
  refine ax_Wp.callE (f' := (33, [some (.ref 113), some (.ref 1)], [])) rfl rfl (w_28_122_10 (d := d + 0) hx) rfl ?_
  refine ax_Wp.go (f' := (41, [some (.ref 113), some (.ref 1)], [.ref 15, .ref 127])) 4 rfl ?_
  refine bnd hD (fun r4 hx hD => ?_)
  refine ax_Wp.callE (f' := (44, [some (.ref 113), some (.ref 1)], [])) rfl rfl (w_22_127_15 (d := d + 0) hx) rfl ?_
  refine ax_Wp.go (f' := (55, [some (.ref 113), some (.ref 1)], [.int (nI 2), .int (nI 0), .ref 129, .int (nI 0), .ref 17])) 7 rfl ?_
  refine ax_Wp.cpI (S' := []) hD rfl rfl (fun _ => rfl) (fun m5 hD => ?_)
  refine ax_Wp.go (f' := (63, [some (.ref 113), some (.ref 1)], [.int (rI m5 1 5), .ref 113])) 3 rfl ?_
  refine ax_Wp.ptI hD rfl rfl rfl (fun m6 hD => ?_)
  refine ax_Wp.go (f' := (71, [some (.ref 113), some (.ref 1)], [.int (rI m6 1 6), .ref 113])) 3 rfl ?_
  refine ax_Wp.ptI hD rfl rfl rfl (fun m7 hD => ?_)
  refine ax_Wp.go (f' := (79, [some (.ref 113), some (.ref 1)], [.int (rI m7 1 7), .ref 113])) 3 rfl ?_
  refine ax_Wp.ptI hD rfl rfl rfl (fun m8 hD => ?_)
  refine ax_Wp.go (f' := (87, [some (.ref 113), some (.ref 1)], [.int (rI m8 1 8), .ref 113])) 3 rfl ?_
  refine ax_Wp.ptI hD rfl rfl rfl (fun m9 hD => ?_)
  refine ax_Wp.go (f' := (95, [some (.ref 113), some (.ref 1)], [.int (rI m9 1 9), .ref 113])) 3 rfl ?_
  refine ax_Wp.ptI hD rfl rfl rfl (fun m10 hD => ?_)
  obtain rfl := inj hD
  exact ax_Wp.ret rfl ⟨rfl, rfl⟩
def D41_S_1 (m : dM) (x : Nat) : Option dM := if x = 45 then D41_45_1 m else if x = 62 then D41_62_1 m else if x = 79 then D41_79_1 m else if x = 96 then D41_96_1 m else if x = 113 then D41_113_1 m else none
theorem w_41_S_1 {X : Nat × (Nat → Int32)} {d : Nat} {m : dM} {x : Nat} {r : dM} (hD : D41_S_1 m x = some r) : ax_Ev X (d + 2) 31 [.ref x, .ref 1] (stt m) (.inl none) (stt r) := by
  unfold D41_S_1 at hD
  refine swD hD (fun e hD => ?_) (fun _ hD => ?_)
  · cases e; exact w_41_45_1 hD
  refine swD hD (fun e hD => ?_) (fun _ hD => ?_)
  · cases e; exact w_41_62_1 hD
  refine swD hD (fun e hD => ?_) (fun _ hD => ?_)
  · cases e; exact w_41_79_1 hD
  refine swD hD (fun e hD => ?_) (fun _ hD => ?_)
  · cases e; exact w_41_96_1 hD
  refine swD hD (fun e hD => ?_) (fun _ hD => ?_)
  · cases e; exact w_41_113_1 hD
  cases hD
theorem w_41_S_1_is {m : dM} {x : Nat} {r : dM} (hD : D41_S_1 m x = some r) : x = 45 ∨ x = 62 ∨ x = 79 ∨ x = 96 ∨ x = 113 := by
  unfold D41_S_1 at hD
  refine swD hD (fun e hD => ?_) (fun _ hD => ?_)
  · exact .inl e
  refine swD hD (fun e hD => ?_) (fun _ hD => ?_)
  · exact .inr (.inl e)
  refine swD hD (fun e hD => ?_) (fun _ hD => ?_)
  · exact .inr (.inr (.inl e))
  refine swD hD (fun e hD => ?_) (fun _ hD => ?_)
  · exact .inr (.inr (.inr (.inl e)))
  refine swD hD (fun e hD => ?_) (fun _ hD => ?_)
  · exact .inr (.inr (.inr (.inr (e))))
  cases hD
def D131 (m : dM) : Option (dM) := if (rI m 0 6) < (nI 5) then (gR m (rI m 0 6)).bind fun (x1 : Nat) => (D41_S_1 m x1).bind fun (r2 : dM) => (fI r2 0 6 ((rI r2 0 6) + (nI 1))).bind fun (m3 : dM) => some m3 else (gR m (nI 0)).bind fun (x4 : Nat) => Option.bind (lp (β := dM) 3000 (fun (s5 : Int32 × dM) => if (nI 5) ≤ s5.1 then some (.inr s5.2) else (gR s5.2 s5.1).bind fun (x7 : Nat) => (sR s5.2 (s5.1 - (nI 1)) x7).bind fun (m8 : dM) => some (.inl (s5.1 + (nI 1), m8))) (nI 1, m)) fun (v6 : dM) => (sR v6 (nI 4) x4).bind fun (m9 : dM) => (fI m9 0 6 (nI 4)).bind fun (m10 : dM) => (gR m10 (rI m10 0 6)).bind fun (x11 : Nat) => (D41_S_1 m10 x11).bind fun (r12 : dM) => (fI r12 0 6 ((rI r12 0 6) + (nI 1))).bind fun (m13 : dM) => some m13
set_option maxRecDepth 20000 in
theorem w_131 {X : Nat × (Nat → Int32)} {d : Nat} {m : dM} {r : dM} (hD : D131 m = some r) : ax_Ev X (d + 3) 108 [.ref 0] (stt m) (.inl none) (stt r) := by
  unfold D131 at hD
  show ax_Wp X (d + 2 + 1) 108 (0, [some (.ref 0), none, none], []) (stt m) _
  refine ax_Wp.go (f' := (5, [some (.ref 0), none, none], [.int (nI 5), .int (rI m 0 6)])) 3 rfl ?_
  refine ax_Wp.brD hD rfl (fun _ hD => ?_) (fun _ hD => ?_)
  · refine ax_Wp.go (f' := (62, [some (.ref 0), none, none], [.int (rI m 0 6), .ref 18])) 4 rfl ?_
    refine ax_Wp.rdR hD rfl (fun x1 hD => ?_)
    refine ax_Wp.go (f' := (67, [some (.ref 0), none, none], [.ref 1, .ref x1])) 2 rfl ?_
    refine bnd hD (fun r2 hx hD => ?_)
    refine ax_Wp.callE (m := 31) (args := [.ref x1, .ref 1]) (f' := (70, [some (.ref 0), none, none], [])) (by rcases w_41_S_1_is hx with rfl | rfl | rfl | rfl | rfl <;> rfl) rfl (w_41_S_1 (d := d + 0) hx) rfl ?_
    refine ax_Wp.go (f' := (77, [some (.ref 0), none, none], [.int ((rI r2 0 6) + (nI 1)), .ref 0])) 5 rfl ?_
    refine ax_Wp.ptI hD rfl rfl rfl (fun m3 hD => ?_)
    obtain rfl := inj hD
    exact ax_Wp.ret rfl ⟨rfl, rfl⟩
  · refine ax_Wp.go (f' := (13, [some (.ref 0), none, none], [.int (nI 0), .ref 18])) 3 rfl ?_
    refine ax_Wp.rdR hD rfl (fun x4 hD => ?_)
    refine ax_Wp.go (f' := (17, [some (.ref 0), some (.ref x4), some (.int (nI 1))], [])) 3 rfl ?_
    refine bnd hD (fun v6 hx hD => ?_)
    refine ax_Wp.jn (F := (42, [some (.ref 0), some (.ref x4), none], [])) (hh := stt v6) ?_ (fun kkv6 => ?_)
    · refine ax_Wp.go (f' := (48, [some (.ref 0), some (.ref x4), none], [.ref x4, .int (nI 4), .ref 18])) 4 rfl ?_
      refine ax_Wp.wrR hD rfl (fun m9 hD => ?_)
      refine ax_Wp.go (f' := (51, [some (.ref 0), some (.ref x4), none], [.int (nI 4), .ref 0])) 2 rfl ?_
      refine ax_Wp.ptI hD rfl rfl rfl (fun m10 hD => ?_)
      refine ax_Wp.go (f' := (62, [some (.ref 0), some (.ref x4), none], [.int (rI m10 0 6), .ref 18])) 4 rfl ?_
      refine ax_Wp.rdR hD rfl (fun x11 hD => ?_)
      refine ax_Wp.go (f' := (67, [some (.ref 0), some (.ref x4), none], [.ref 1, .ref x11])) 2 rfl ?_
      refine bnd hD (fun r12 hx hD => ?_)
      refine ax_Wp.callE (m := 31) (args := [.ref x11, .ref 1]) (f' := (70, [some (.ref 0), some (.ref x4), none], [])) (by rcases w_41_S_1_is hx with rfl | rfl | rfl | rfl | rfl <;> rfl) rfl (w_41_S_1 (d := d + 0) hx) rfl ?_
      refine ax_Wp.go (f' := (77, [some (.ref 0), some (.ref x4), none], [.int ((rI r12 0 6) + (nI 1)), .ref 0])) 5 rfl ?_
      refine ax_Wp.ptI hD rfl rfl rfl (fun m13 hD => ?_)
      obtain rfl := inj hD
      exact ax_Wp.ret rfl ⟨rfl, rfl⟩
    clear hD
    refine ax_Wp.lpD (fun (s5 : Int32 × dM) => ((17, [some (.ref 0), some (.ref x4), some (.int s5.1)], []), stt s5.2)) ?_ hx
    clear hx
    intro s5 v hD ks5
    refine ax_Wp.go (f' := (19, [some (.ref 0), some (.ref x4), some (.int s5.1)], [.int (nI 5), .int s5.1])) 2 rfl ?_
    refine ax_Wp.brD hD rfl (fun _ hD => ?_) (fun _ hD => ?_)
    · obtain rfl := inj hD
      obtain rfl := ks5.o
      exact ax_Wp.dead kkv6 ⟨.inl rfl, ⟨.inl rfl, ⟨.inr ⟨rfl, trivial⟩, trivial⟩⟩⟩
    · refine ax_Wp.go (f' := (34, [some (.ref 0), some (.ref x4), some (.int s5.1)], [.int s5.1, .ref 18, .int (s5.1 - (nI 1)), .ref 18])) 8 rfl ?_
      refine ax_Wp.rdR hD rfl (fun x7 hD => ?_)
      refine ax_Wp.wrR hD rfl (fun m8 hD => ?_)
      refine ax_Wp.go (f' := (17, [some (.ref 0), some (.ref x4), some (.int (s5.1 + (nI 1)))], [])) 2 rfl ?_
      obtain rfl := inj hD
      exact ks5.i
def D4 (m : dM) (p0 : Int32) : Option (Int32 × dM) := (D128 p0).bind fun (x1 : Int32) => if x1 = (nI 0) then some (nI 0, m) else (gI m 7 4 p0).bind fun (x2 : Int32) => if x2 = (-1) then some (nI 0, m) else (sI m 7 4 p0 (-1)).bind fun (m3 : dM) => some (nI 1, m3)
set_option maxRecDepth 20000 in
theorem w_4 {X : Nat × (Nat → Int32)} {d : Nat} {m : dM} {p0 : Int32} {r : Int32 × dM} (hD : D4 m p0 = some r) : ax_Ev X (d + 2) 4 [.ref 5, .int p0] (stt m) (.inl (some (.int r.1))) (stt r.2) := by
  unfold D4 at hD
  show ax_Wp X (d + 1 + 1) 4 (0, [some (.ref 5), some (.int p0)], []) (stt m) _
  refine ax_Wp.go (f' := (1, [some (.ref 5), some (.int p0)], [.int p0])) 1 rfl ?_
  refine bnd hD (fun x1 hx hD => ?_)
  refine ax_Wp.callE (f' := (4, [some (.ref 5), some (.int p0)], [])) rfl rfl (w_128 (d := d + 0) hx) rfl ?_
  refine ax_Wp.brD hD rfl (fun _ hD => ?_) (fun _ hD => ?_)
  · refine ax_Wp.go (f' := (18, [some (.ref 5), some (.int p0)], [.int (nI 0)])) 1 rfl ?_
    obtain rfl := inj hD
    exact ax_Wp.ret rfl ⟨rfl, rfl⟩
  · refine ax_Wp.go (f' := (12, [some (.ref 5), some (.int p0)], [.int p0, .ref 7])) 3 rfl ?_
    refine ax_Wp.rdI hD rfl rfl rfl (fun x2 hD => ?_)
    refine ax_Wp.go (f' := (14, [some (.ref 5), some (.int p0)], [.int (-1), .int x2])) 1 rfl ?_
    refine ax_Wp.brD hD rfl (fun _ hD => ?_) (fun _ hD => ?_)
    · refine ax_Wp.go (f' := (18, [some (.ref 5), some (.int p0)], [.int (nI 0)])) 1 rfl ?_
      obtain rfl := inj hD
      exact ax_Wp.ret rfl ⟨rfl, rfl⟩
    · refine ax_Wp.go (f' := (25, [some (.ref 5), some (.int p0)], [.int (-1), .int p0, .ref 7])) 4 rfl ?_
      refine ax_Wp.wrI hD rfl rfl (fun _ => rfl) (fun m3 hD => ?_)
      refine ax_Wp.go (f' := (27, [some (.ref 5), some (.int p0)], [.int (nI 1)])) 1 rfl ?_
      obtain rfl := inj hD
      exact ax_Wp.ret rfl ⟨rfl, rfl⟩
def D78 (m : dM) (p0 : Int32) : Option ((Int32 ⊕ Nat) × dM) := cT (D124 p0) m (fun (x1 : Unit) => (D131 m).bind fun (r4 : dM) => (D4 r4 p0).bind fun (r5 : Int32 × dM) => (gB r5.1).bind fun (b6 : Int32) => some (.inl b6, r5.2)) (fun (j2 : Nat) (m3 : dM) => some (.inr j2, m3))
set_option maxRecDepth 20000 in
theorem w_78 {X : Nat × (Nat → Int32)} {d : Nat} {m : dM} {p0 : Int32} {r : (Int32 ⊕ Nat) × dM} (hD : D78 m p0 = some r) : ax_Ev X (d + 7) 65 [.ref 0, .int p0] (stt m) (oT (fun x => some (.int x)) r.1) (stt r.2) := by
  unfold D78 at hD
  show ax_Wp X (d + 6 + 1) 65 (0, [some (.ref 0), some (.int p0)], []) (stt m) _
  refine ax_Wp.go (f' := (1, [some (.ref 0), some (.int p0)], [.int p0])) 1 rfl ?_
  refine cT.sp hD (fun x1 hx hD => ?_) (fun j2 hx hD => ?_)
  · refine ax_Wp.callE (f' := (4, [some (.ref 0), some (.int p0)], [])) rfl rfl (w_124 (d := d + 0) hx) rfl ?_
    refine ax_Wp.go (f' := (5, [some (.ref 0), some (.int p0)], [.ref 0])) 1 rfl ?_
    refine bnd hD (fun r4 hx hD => ?_)
    refine ax_Wp.callE (f' := (8, [some (.ref 0), some (.int p0)], [])) rfl rfl (w_131 (d := d + 3) hx) rfl ?_
    refine ax_Wp.go (f' := (16, [some (.ref 0), some (.int p0)], [.int p0, .ref 5])) 4 rfl ?_
    refine bnd hD (fun r5 hx hD => ?_)
    refine ax_Wp.callE (f' := (19, [some (.ref 0), some (.int p0)], [])) rfl rfl (w_4 (d := d + 4) hx) rfl ?_
    refine ax_Wp.retB hD rfl (fun b6 hD => ?_)
    obtain rfl := inj hD
    exact ⟨rfl, rfl⟩
  · obtain rfl := inj hD
    exact ax_Wp.callX (f' := (4, [some (.ref 0), some (.int p0)], [])) rfl rfl (w_124 (d := d + 0) hx) rfl ⟨rfl, rfl⟩
def D97 (m : dM) (p0 : Int32) : Option (Int32 ⊕ Nat) := cT (D124 p0) m (fun (x1 : Unit) => (gI m 7 4 p0).bind fun (x4 : Int32) => Option.bind ((if x4 = (-1) then some (nI 0) else some (nI 1)) : Option (Int32)) fun (v5 : Int32) => (gB v5).bind fun (b6 : Int32) => some (.inl b6)) (fun (j2 : Nat) (m3 : dM) => some (.inr j2))
set_option maxRecDepth 20000 in
theorem w_97 {X : Nat × (Nat → Int32)} {d : Nat} {m : dM} {p0 : Int32} {r : Int32 ⊕ Nat} (hD : D97 m p0 = some r) : ax_Ev X (d + 7) 76 [.ref 0, .int p0] (stt m) (oT (fun x => some (.int x)) r) (stt (bT m r)) := by
  unfold D97 at hD
  show ax_Wp X (d + 6 + 1) 76 (0, [some (.ref 0), some (.int p0)], []) (stt m) _
  refine ax_Wp.go (f' := (1, [some (.ref 0), some (.int p0)], [.int p0])) 1 rfl ?_
  refine cT.sp hD (fun x1 hx hD => ?_) (fun j2 hx hD => ?_)
  · refine ax_Wp.callE (f' := (4, [some (.ref 0), some (.int p0)], [])) rfl rfl (w_124 (d := d + 0) hx) rfl ?_
    refine ax_Wp.go (f' := (15, [some (.ref 0), some (.int p0)], [.int p0, .ref 7])) 5 rfl ?_
    refine ax_Wp.rdI hD rfl rfl rfl (fun x4 hD => ?_)
    refine ax_Wp.go (f' := (17, [some (.ref 0), some (.int p0)], [.int (-1), .int x4])) 1 rfl ?_
    refine bnd hD (fun v5 hx hD => ?_)
    refine ax_Wp.jn (F := (25, [some (.ref 0), none], [.int v5])) (hh := stt m) ?_ (fun kkv5 => ?_)
    · refine ax_Wp.retB hD rfl (fun b6 hD => ?_)
      obtain rfl := inj hD
      exact ⟨rfl, rfl⟩
    clear hD
    have hD := hx
    clear hx
    refine ax_Wp.brD hD rfl (fun _ hD => ?_) (fun _ hD => ?_)
    · refine ax_Wp.go (f' := (25, [some (.ref 0), some (.int p0)], [.int (nI 0)])) 1 rfl ?_
      obtain rfl := inj hD
      exact ax_Wp.dead kkv5 ⟨.inl rfl, ⟨.inr ⟨rfl, trivial⟩, trivial⟩⟩
    · refine ax_Wp.go (f' := (25, [some (.ref 0), some (.int p0)], [.int (nI 1)])) 2 rfl ?_
      obtain rfl := inj hD
      exact ax_Wp.dead kkv5 ⟨.inl rfl, ⟨.inr ⟨rfl, trivial⟩, trivial⟩⟩
  · obtain rfl := inj hD
    exact ax_Wp.callX (f' := (4, [some (.ref 0), some (.int p0)], [])) rfl rfl (w_124 (d := d + 0) hx) rfl ⟨rfl, rfl⟩
def D42 (m : dM) : Option (Int64) := Option.bind (lp (β := Int64) 3000 (fun (s1 : Int64 × Int32) => if (nI 4) ≤ s1.2 then some (.inr s1.1) else (gI m 6 4 s1.2).bind fun (x3 : Int32) => some (.inl ((s1.1 <<< ((nI 4).toInt64 &&& 63)) ||| x3.toInt64, s1.2 + (nI 1)))) ((0 : Int64), nI 0)) fun (v2 : Int64) => Option.bind (lp (β := Int64) 3000 (fun (s4 : Int64 × Int32) => if (rI m 10 4) ≤ s4.2 then some (.inr s4.1) else (gI m 14 8 s4.2).bind fun (x6 : Int32) => some (.inl ((s4.1 <<< ((nI 5).toInt64 &&& 63)) ||| x6.toInt64, s4.2 + (nI 1)))) (v2, nI 0)) fun (v5 : Int64) => some v5
set_option maxRecDepth 20000 in
theorem w_42 {X : Nat × (Nat → Int32)} {d : Nat} {m : dM} {r : Int64} (hD : D42 m = some r) : ax_Ev X (d + 1) 32 [.ref 1] (stt m) (.inl (some (.long r))) (stt m) := by
  unfold D42 at hD
  show ax_Wp X (d + 0 + 1) 32 (0, [some (.ref 1), none, none, none], []) (stt m) _
  refine ax_Wp.go (f' := (4, [some (.ref 1), some (.long (0 : Int64)), none, some (.int (nI 0))], [])) 4 rfl ?_
  refine bnd hD (fun v2 hx hD => ?_)
  refine ax_Wp.jn (F := (30, [some (.ref 1), some (.long v2), none, none], [])) (hh := stt m) ?_ (fun kkv2 => ?_)
  · refine ax_Wp.go (f' := (32, [some (.ref 1), some (.long v2), none, some (.int (nI 0))], [])) 2 rfl ?_
    refine bnd hD (fun v5 hx hD => ?_)
    refine ax_Wp.jn (F := (64, [some (.ref 1), some (.long v5), none, none], [])) (hh := stt m) ?_ (fun kkv5 => ?_)
    · refine ax_Wp.go (f' := (65, [some (.ref 1), some (.long v5), none, none], [.long v5])) 1 rfl ?_
      obtain rfl := inj hD
      exact ax_Wp.ret rfl ⟨rfl, rfl⟩
    clear hD
    refine ax_Wp.lpD (fun (s4 : Int64 × Int32) => ((32, [some (.ref 1), some (.long s4.1), none, some (.int s4.2)], []), stt m)) ?_ hx
    clear hx
    intro s4 v hD ks4
    refine ax_Wp.go (f' := (40, [some (.ref 1), some (.long s4.1), none, some (.int s4.2)], [.int (rI m 10 4), .int s4.2])) 4 rfl ?_
    refine ax_Wp.brD hD rfl (fun _ hD => ?_) (fun _ hD => ?_)
    · obtain rfl := inj hD
      obtain rfl := ks4.o
      exact ax_Wp.dead kkv5 ⟨.inl rfl, ⟨.inl rfl, ⟨.inl rfl, ⟨.inr ⟨rfl, trivial⟩, trivial⟩⟩⟩⟩
    · refine ax_Wp.go (f' := (54, [some (.ref 1), some (.long s4.1), none, some (.int s4.2)], [.int s4.2, .ref 14, .long (s4.1 <<< ((nI 5).toInt64 &&& 63))])) 7 rfl ?_
      refine ax_Wp.rdI hD rfl rfl rfl (fun x6 hD => ?_)
      refine ax_Wp.go (f' := (32, [some (.ref 1), some (.long ((s4.1 <<< ((nI 5).toInt64 &&& 63)) ||| x6.toInt64)), none, some (.int (s4.2 + (nI 1)))], [])) 5 rfl ?_
      obtain rfl := inj hD
      exact ks4.i
  clear hD
  refine ax_Wp.lpD (fun (s1 : Int64 × Int32) => ((4, [some (.ref 1), some (.long s1.1), none, some (.int s1.2)], []), stt m)) ?_ hx
  clear hx
  intro s1 v hD ks1
  refine ax_Wp.go (f' := (6, [some (.ref 1), some (.long s1.1), none, some (.int s1.2)], [.int (nI 4), .int s1.2])) 2 rfl ?_
  refine ax_Wp.brD hD rfl (fun _ hD => ?_) (fun _ hD => ?_)
  · obtain rfl := inj hD
    obtain rfl := ks1.o
    exact ax_Wp.dead kkv2 ⟨.inl rfl, ⟨.inl rfl, ⟨.inl rfl, ⟨.inr ⟨rfl, trivial⟩, trivial⟩⟩⟩⟩
  · refine ax_Wp.go (f' := (20, [some (.ref 1), some (.long s1.1), none, some (.int s1.2)], [.int s1.2, .ref 6, .long (s1.1 <<< ((nI 4).toInt64 &&& 63))])) 7 rfl ?_
    refine ax_Wp.rdI hD rfl rfl rfl (fun x3 hD => ?_)
    refine ax_Wp.go (f' := (4, [some (.ref 1), some (.long ((s1.1 <<< ((nI 4).toInt64 &&& 63)) ||| x3.toInt64)), none, some (.int (s1.2 + (nI 1)))], [])) 5 rfl ?_
    obtain rfl := inj hD
    exact ks1.i
def D24 (m : dM) (p0 : Int64) : Option (Int32) := Option.bind (lp (β := Int32) 3000 (fun (s1 : Int32 × Int32) => if (rI m 15 1) ≤ s1.2 then some (.inr s1.1) else (gL m 16 61 s1.2).bind fun (x3 : Int64) => Option.bind ((if (lg_cmp x3 p0) = (nI 0) then some (s1.1 + (nI 1)) else some s1.1) : Option (Int32)) fun (v4 : Int32) => some (.inl (v4, s1.2 + (nI 1)))) (nI 0, nI 0)) fun (v2 : Int32) => some v2
set_option maxRecDepth 20000 in
theorem w_24 {X : Nat × (Nat → Int32)} {d : Nat} {m : dM} {p0 : Int64} {r : Int32} (hD : D24 m p0 = some r) : ax_Ev X (d + 1) 14 [.ref 15, .long p0] (stt m) (.inl (some (.int r))) (stt m) := by
  unfold D24 at hD
  show ax_Wp X (d + 0 + 1) 14 (0, [some (.ref 15), some (.long p0), none, none, none], []) (stt m) _
  refine ax_Wp.go (f' := (5, [some (.ref 15), some (.long p0), none, some (.int (nI 0)), some (.int (nI 0))], [])) 4 rfl ?_
  refine bnd hD (fun v2 hx hD => ?_)
  refine ax_Wp.jn (F := (35, [some (.ref 15), none, none, some (.int v2), none], [])) (hh := stt m) ?_ (fun kkv2 => ?_)
  · refine ax_Wp.go (f' := (36, [some (.ref 15), none, none, some (.int v2), none], [.int v2])) 1 rfl ?_
    obtain rfl := inj hD
    exact ax_Wp.ret rfl ⟨rfl, rfl⟩
  clear hD
  refine ax_Wp.lpD (fun (s1 : Int32 × Int32) => ((5, [some (.ref 15), some (.long p0), none, some (.int s1.1), some (.int s1.2)], []), stt m)) ?_ hx
  clear hx
  intro s1 v hD ks1
  refine ax_Wp.go (f' := (11, [some (.ref 15), some (.long p0), none, some (.int s1.1), some (.int s1.2)], [.int (rI m 15 1), .int s1.2])) 3 rfl ?_
  refine ax_Wp.brD hD rfl (fun _ hD => ?_) (fun _ hD => ?_)
  · obtain rfl := inj hD
    obtain rfl := ks1.o
    exact ax_Wp.dead kkv2 ⟨.inl rfl, ⟨.inr ⟨rfl, trivial⟩, ⟨.inl rfl, ⟨.inl rfl, ⟨.inr ⟨rfl, trivial⟩, trivial⟩⟩⟩⟩⟩
  · refine ax_Wp.go (f' := (20, [some (.ref 15), some (.long p0), none, some (.int s1.1), some (.int s1.2)], [.int s1.2, .ref 16])) 3 rfl ?_
    refine ax_Wp.rdL hD rfl rfl rfl (fun x3 hD => ?_)
    refine ax_Wp.go (f' := (23, [some (.ref 15), some (.long p0), none, some (.int s1.1), some (.int s1.2)], [.int (lg_cmp x3 p0)])) 2 rfl ?_
    refine bnd hD (fun v4 hx hD => ?_)
    refine ax_Wp.jn (F := (29, [some (.ref 15), some (.long p0), none, some (.int v4), some (.int s1.2)], [])) (hh := stt m) ?_ (fun kkv4 => ?_)
    · refine ax_Wp.go (f' := (5, [some (.ref 15), some (.long p0), none, some (.int v4), some (.int (s1.2 + (nI 1)))], [])) 2 rfl ?_
      obtain rfl := inj hD
      exact ks1.i
    clear hD
    have hD := hx
    clear hx
    refine ax_Wp.brD hD rfl (fun _ hD => ?_) (fun _ hD => ?_)
    · refine ax_Wp.go (f' := (29, [some (.ref 15), some (.long p0), none, some (.int (s1.1 + (nI 1))), some (.int s1.2)], [])) 1 rfl ?_
      obtain rfl := inj hD
      exact kkv4
    · obtain rfl := inj hD
      exact kkv4
