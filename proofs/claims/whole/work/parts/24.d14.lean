/-! WHAT METHODS DO, printed of their bytecode: 14 -/
def D233 (m : dM) (p0 : Int32) (p1 : Int32) : Option (Int32 × dM) := (fI m 130 7 (nI 0)).bind fun (m1 : dM) => (D146 p0).bind fun (x2 : Int32) => if x2 = (nI 0) then (D143 m1 (nI 1)).bind fun (r3 : Int32 × dM) => some (r3.1, r3.2) else (D145 p1).bind fun (x4 : Int32) => if x4 = (nI 0) then (D143 m1 (nI 1)).bind fun (r5 : Int32 × dM) => some (r5.1, r5.2) else (D150 m1 p0 (nI 0)).bind fun (x6 : Int32) => (D231 m1 p0 x6 p1).bind fun (r7 : Int32 × dM) => if (nI 1) ≤ r7.1 then Option.bind (lp (β := Int32 × dM) 3000 (fun (s8 : Int32 × Int32 × dM) => if s8.2.1 < (nI 0) then some (.inr (s8.1, s8.2.2)) else (D154 s8.2.2 s8.2.1).bind fun (x10 : Int32) => Option.bind ((if x10 = x6 then (D157 s8.2.2 s8.2.1).bind fun (x12 : Int32) => if x12 = (nI 0) then some (nI 0) else (D156 s8.2.2 s8.2.1).bind fun (x13 : Int32) => if x13 = (nI 0) then some (nI 1) else (D150 s8.2.2 p0 (nI 1)).bind fun (x14 : Int32) => if x14 = (nI 1) then some (nI 0) else some (nI 1) else some (nI 0)) : Option (Int32)) fun (v11 : Int32) => Option.bind ((if v11 = (nI 0) then some (s8.1, s8.2.2) else (D155 s8.2.2 s8.2.1).bind fun (x16 : Int32) => (D231 s8.2.2 p0 x16 p1).bind fun (r17 : Int32 × dM) => if r17.1 = (r7.1 - (nI 1)) then some (s8.2.1, r17.2) else some (s8.1, r17.2)) : Option (Int32 × dM)) fun (v15 : Int32 × dM) => (kD s8.2.1).bind fun (x18 : Int32) => some (.inl (v15.1, x18, v15.2))) ((-1), (rI r7.2 131 0) - (nI 1), r7.2)) fun (v9 : Int32 × dM) => some (v9.1, v9.2) else (D143 r7.2 (nI 2)).bind fun (r19 : Int32 × dM) => some (r19.1, r19.2)
set_option maxRecDepth 20000 in
theorem w_233 {X : Nat × (Nat → Int32)} {d : Nat} {m : dM} {p0 : Int32} {p1 : Int32} {r : Int32 × dM} (hD : D233 m p0 p1 = some r) : ax_Ev X (d + 4) 233 [.ref 130, .int p0, .int p1] (stt m) (.inl (some (.int r.1))) (stt r.2) := by
  unfold D233 at hD
  show ax_Wp X (d + 3 + 1) 233 (0, [some (.ref 130), some (.int p0), some (.int p1), none, none, none, none, none], []) (stt m) _
  refine ax_Wp.go (f' := (2, [some (.ref 130), some (.int p0), some (.int p1), none, none, none, none, none], [.int (nI 0), .ref 130])) 2 rfl ?_
  refine ax_Wp.ptI hD rfl rfl rfl (fun m1 hD => ?_)
  refine ax_Wp.go (f' := (6, [some (.ref 130), some (.int p0), some (.int p1), none, none, none, none, none], [.int p0])) 1 rfl ?_
  refine bnd hD (fun x2 hx hD => ?_)
  refine ax_Wp.callE (f' := (9, [some (.ref 130), some (.int p0), some (.int p1), none, none, none, none, none], [])) rfl rfl (w_146 (d := d + 1) hx) rfl ?_
  refine ax_Wp.brD hD rfl (fun _ hD => ?_) (fun _ hD => ?_)
  · refine ax_Wp.go (f' := (21, [some (.ref 130), some (.int p0), some (.int p1), none, none, none, none, none], [.int (nI 1), .ref 130])) 2 rfl ?_
    refine bnd hD (fun r3 hx hD => ?_)
    refine ax_Wp.callE (f' := (24, [some (.ref 130), some (.int p0), some (.int p1), none, none, none, none, none], [])) rfl rfl (w_143 (d := d + 2) hx) rfl ?_
    obtain rfl := inj hD
    exact ax_Wp.ret rfl ⟨rfl, rfl⟩
  · refine ax_Wp.go (f' := (13, [some (.ref 130), some (.int p0), some (.int p1), none, none, none, none, none], [.int p1])) 1 rfl ?_
    refine bnd hD (fun x4 hx hD => ?_)
    refine ax_Wp.callE (f' := (16, [some (.ref 130), some (.int p0), some (.int p1), none, none, none, none, none], [])) rfl rfl (w_145 (d := d + 1) hx) rfl ?_
    refine ax_Wp.brD hD rfl (fun _ hD => ?_) (fun _ hD => ?_)
    · refine ax_Wp.go (f' := (21, [some (.ref 130), some (.int p0), some (.int p1), none, none, none, none, none], [.int (nI 1), .ref 130])) 2 rfl ?_
      refine bnd hD (fun r5 hx hD => ?_)
      refine ax_Wp.callE (f' := (24, [some (.ref 130), some (.int p0), some (.int p1), none, none, none, none, none], [])) rfl rfl (w_143 (d := d + 2) hx) rfl ?_
      obtain rfl := inj hD
      exact ax_Wp.ret rfl ⟨rfl, rfl⟩
    · refine ax_Wp.go (f' := (28, [some (.ref 130), some (.int p0), some (.int p1), none, none, none, none, none], [.int (nI 0), .int p0, .ref 130])) 3 rfl ?_
      refine bnd hD (fun x6 hx hD => ?_)
      refine ax_Wp.callE (f' := (31, [some (.ref 130), some (.int p0), some (.int p1), none, none, none, none, none], [])) rfl rfl (w_150 (d := d + 2) hx) rfl ?_
      refine ax_Wp.go (f' := (36, [some (.ref 130), some (.int p0), some (.int p1), some (.int x6), none, none, none, none], [.int p1, .int x6, .int p0, .ref 130])) 5 rfl ?_
      refine bnd hD (fun r7 hx hD => ?_)
      refine ax_Wp.callE (f' := (39, [some (.ref 130), some (.int p0), some (.int p1), some (.int x6), none, none, none, none], [])) rfl rfl (w_231 (d := d + 0) hx) rfl ?_
      refine ax_Wp.go (f' := (44, [some (.ref 130), some (.int p0), some (.int p1), some (.int x6), some (.int r7.1), none, none, none], [.int (nI 1), .int r7.1])) 3 rfl ?_
      refine ax_Wp.brD hD rfl (fun _ hD => ?_) (fun _ hD => ?_)
      · refine ax_Wp.go (f' := (66, [some (.ref 130), some (.int p0), some (.int p1), some (.int x6), some (.int r7.1), some (.int (-1)), some (.int ((rI r7.2 131 0) - (nI 1))), none], [])) 9 rfl ?_
        refine bnd hD (fun v9 hx hD => ?_)
        refine ax_Wp.jn (F := (155, [some (.ref 130), none, none, none, none, some (.int v9.1), none, none], [])) (hh := stt v9.2) ?_ (fun kkv9 => ?_)
        · refine ax_Wp.go (f' := (157, [some (.ref 130), none, none, none, none, some (.int v9.1), none, none], [.int v9.1])) 1 rfl ?_
          obtain rfl := inj hD
          exact ax_Wp.ret rfl ⟨rfl, rfl⟩
        clear hD
        refine ax_Wp.lpD (fun (s8 : Int32 × Int32 × dM) => ((66, [some (.ref 130), some (.int p0), some (.int p1), some (.int x6), some (.int r7.1), some (.int s8.1), some (.int s8.2.1), none], []), stt s8.2.2)) ?_ hx
        clear hx
        intro s8 v hD ks8
        refine ax_Wp.go (f' := (68, [some (.ref 130), some (.int p0), some (.int p1), some (.int x6), some (.int r7.1), some (.int s8.1), some (.int s8.2.1), none], [.int s8.2.1])) 1 rfl ?_
        refine ax_Wp.brD hD rfl (fun _ hD => ?_) (fun _ hD => ?_)
        · obtain rfl := inj hD
          obtain rfl := ks8.o
          exact ax_Wp.dead kkv9 ⟨.inl rfl, ⟨.inr ⟨rfl, trivial⟩, ⟨.inr ⟨rfl, trivial⟩, ⟨.inr ⟨rfl, trivial⟩, ⟨.inr ⟨rfl, trivial⟩, ⟨.inl rfl, ⟨.inr ⟨rfl, trivial⟩, ⟨.inl rfl, trivial⟩⟩⟩⟩⟩⟩⟩⟩
        · refine ax_Wp.go (f' := (74, [some (.ref 130), some (.int p0), some (.int p1), some (.int x6), some (.int r7.1), some (.int s8.1), some (.int s8.2.1), none], [.int s8.2.1, .ref 130])) 2 rfl ?_
          refine bnd hD (fun x10 hx hD => ?_)
          refine ax_Wp.callE (f' := (77, [some (.ref 130), some (.int p0), some (.int p1), some (.int x6), some (.int r7.1), some (.int s8.1), some (.int s8.2.1), none], [])) rfl rfl (w_154 (d := d + 2) hx) rfl ?_
          refine ax_Wp.go (f' := (78, [some (.ref 130), some (.int p0), some (.int p1), some (.int x6), some (.int r7.1), some (.int s8.1), some (.int s8.2.1), none], [.int x6, .int x10])) 1 rfl ?_
          refine bnd hD (fun v11 hx hD => ?_)
          refine ax_Wp.jn (F := (114, [some (.ref 130), some (.int p0), some (.int p1), some (.int x6), some (.int r7.1), some (.int s8.1), some (.int s8.2.1), none], [.int v11])) (hh := stt s8.2.2) ?_ (fun kkv11 => ?_)
          · refine ax_Wp.go (f' := (118, [some (.ref 130), some (.int p0), some (.int p1), some (.int x6), some (.int r7.1), some (.int s8.1), some (.int s8.2.1), some (.int v11)], [.int v11])) 2 rfl ?_
            refine bnd hD (fun v15 hx hD => ?_)
            refine ax_Wp.jn (F := (147, [some (.ref 130), some (.int p0), some (.int p1), some (.int x6), some (.int r7.1), none, some (.int s8.2.1), none], [.int v15.1])) (hh := stt v15.2) ?_ (fun kkv15 => ?_)
            · refine ax_Wp.go (f' := (149, [some (.ref 130), some (.int p0), some (.int p1), some (.int x6), some (.int r7.1), some (.int v15.1), some (.int s8.2.1), none], [])) 1 rfl ?_
              refine bnd hD (fun x18 hx hD => ?_)
              refine ax_Wp.go (f' := (152, [some (.ref 130), some (.int p0), some (.int p1), some (.int x6), some (.int r7.1), some (.int v15.1), some (.int (s8.2.1 + Int32.ofInt (-1))), none], [])) 1 rfl ?_
              refine ax_Wp.fr (f' := (152, [some (.ref 130), some (.int p0), some (.int p1), some (.int x6), some (.int r7.1), some (.int v15.1), some (.int x18), none], [])) (by rw [← inj (a := s8.2.1 + Int32.ofInt (-1)) hx]) ?_
              refine ax_Wp.go (f' := (66, [some (.ref 130), some (.int p0), some (.int p1), some (.int x6), some (.int r7.1), some (.int v15.1), some (.int x18), none], [])) 1 rfl ?_
              obtain rfl := inj hD
              exact ks8.i
            clear hD
            have hD := hx
            clear hx
            refine ax_Wp.brD hD rfl (fun _ hD => ?_) (fun _ hD => ?_)
            · refine ax_Wp.go (f' := (147, [some (.ref 130), some (.int p0), some (.int p1), some (.int x6), some (.int r7.1), some (.int s8.1), some (.int s8.2.1), some (.int v11)], [.int s8.1])) 1 rfl ?_
              obtain rfl := inj hD
              exact ax_Wp.dead kkv15 ⟨.inl rfl, ⟨.inl rfl, ⟨.inl rfl, ⟨.inl rfl, ⟨.inl rfl, ⟨.inr ⟨rfl, trivial⟩, ⟨.inl rfl, ⟨.inr ⟨rfl, trivial⟩, trivial⟩⟩⟩⟩⟩⟩⟩⟩
            · refine ax_Wp.go (f' := (126, [some (.ref 130), some (.int p0), some (.int p1), some (.int x6), some (.int r7.1), some (.int s8.1), some (.int s8.2.1), some (.int v11)], [.int s8.2.1, .ref 130, .int p0, .ref 130])) 4 rfl ?_
              refine bnd hD (fun x16 hx hD => ?_)
              refine ax_Wp.callE (f' := (129, [some (.ref 130), some (.int p0), some (.int p1), some (.int x6), some (.int r7.1), some (.int s8.1), some (.int s8.2.1), some (.int v11)], [.int p0, .ref 130])) rfl rfl (w_155 (d := d + 2) hx) rfl ?_
              refine ax_Wp.go (f' := (130, [some (.ref 130), some (.int p0), some (.int p1), some (.int x6), some (.int r7.1), some (.int s8.1), some (.int s8.2.1), some (.int v11)], [.int p1, .int x16, .int p0, .ref 130])) 1 rfl ?_
              refine bnd hD (fun r17 hx hD => ?_)
              refine ax_Wp.callE (f' := (133, [some (.ref 130), some (.int p0), some (.int p1), some (.int x6), some (.int r7.1), some (.int s8.1), some (.int s8.2.1), some (.int v11)], [])) rfl rfl (w_231 (d := d + 0) hx) rfl ?_
              refine ax_Wp.go (f' := (137, [some (.ref 130), some (.int p0), some (.int p1), some (.int x6), some (.int r7.1), some (.int s8.1), some (.int s8.2.1), some (.int v11)], [.int (r7.1 - (nI 1)), .int r17.1])) 3 rfl ?_
              refine ax_Wp.brD hD rfl (fun _ hD => ?_) (fun _ hD => ?_)
              · refine ax_Wp.go (f' := (147, [some (.ref 130), some (.int p0), some (.int p1), some (.int x6), some (.int r7.1), some (.int s8.1), some (.int s8.2.1), some (.int v11)], [.int s8.2.1])) 2 rfl ?_
                obtain rfl := inj hD
                exact ax_Wp.dead kkv15 ⟨.inl rfl, ⟨.inl rfl, ⟨.inl rfl, ⟨.inl rfl, ⟨.inl rfl, ⟨.inr ⟨rfl, trivial⟩, ⟨.inl rfl, ⟨.inr ⟨rfl, trivial⟩, trivial⟩⟩⟩⟩⟩⟩⟩⟩
              · refine ax_Wp.go (f' := (147, [some (.ref 130), some (.int p0), some (.int p1), some (.int x6), some (.int r7.1), some (.int s8.1), some (.int s8.2.1), some (.int v11)], [.int s8.1])) 1 rfl ?_
                obtain rfl := inj hD
                exact ax_Wp.dead kkv15 ⟨.inl rfl, ⟨.inl rfl, ⟨.inl rfl, ⟨.inl rfl, ⟨.inl rfl, ⟨.inr ⟨rfl, trivial⟩, ⟨.inl rfl, ⟨.inr ⟨rfl, trivial⟩, trivial⟩⟩⟩⟩⟩⟩⟩⟩
          clear hD
          have hD := hx
          clear hx
          refine ax_Wp.brD hD rfl (fun _ hD => ?_) (fun _ hD => ?_)
          · refine ax_Wp.go (f' := (84, [some (.ref 130), some (.int p0), some (.int p1), some (.int x6), some (.int r7.1), some (.int s8.1), some (.int s8.2.1), none], [.int s8.2.1, .ref 130])) 2 rfl ?_
            refine bnd hD (fun x12 hx hD => ?_)
            refine ax_Wp.callE (f' := (87, [some (.ref 130), some (.int p0), some (.int p1), some (.int x6), some (.int r7.1), some (.int s8.1), some (.int s8.2.1), none], [])) rfl rfl (w_157 (d := d + 2) hx) rfl ?_
            refine ax_Wp.brD hD rfl (fun _ hD => ?_) (fun _ hD => ?_)
            · refine ax_Wp.go (f' := (114, [some (.ref 130), some (.int p0), some (.int p1), some (.int x6), some (.int r7.1), some (.int s8.1), some (.int s8.2.1), none], [.int (nI 0)])) 1 rfl ?_
              obtain rfl := inj hD
              exact kkv11
            · refine ax_Wp.go (f' := (93, [some (.ref 130), some (.int p0), some (.int p1), some (.int x6), some (.int r7.1), some (.int s8.1), some (.int s8.2.1), none], [.int s8.2.1, .ref 130])) 2 rfl ?_
              refine bnd hD (fun x13 hx hD => ?_)
              refine ax_Wp.callE (f' := (96, [some (.ref 130), some (.int p0), some (.int p1), some (.int x6), some (.int r7.1), some (.int s8.1), some (.int s8.2.1), none], [])) rfl rfl (w_156 (d := d + 2) hx) rfl ?_
              refine ax_Wp.brD hD rfl (fun _ hD => ?_) (fun _ hD => ?_)
              · refine ax_Wp.go (f' := (114, [some (.ref 130), some (.int p0), some (.int p1), some (.int x6), some (.int r7.1), some (.int s8.1), some (.int s8.2.1), none], [.int (nI 1)])) 2 rfl ?_
                obtain rfl := inj hD
                exact kkv11
              · refine ax_Wp.go (f' := (102, [some (.ref 130), some (.int p0), some (.int p1), some (.int x6), some (.int r7.1), some (.int s8.1), some (.int s8.2.1), none], [.int (nI 1), .int p0, .ref 130])) 3 rfl ?_
                refine bnd hD (fun x14 hx hD => ?_)
                refine ax_Wp.callE (f' := (105, [some (.ref 130), some (.int p0), some (.int p1), some (.int x6), some (.int r7.1), some (.int s8.1), some (.int s8.2.1), none], [])) rfl rfl (w_150 (d := d + 2) hx) rfl ?_
                refine ax_Wp.go (f' := (106, [some (.ref 130), some (.int p0), some (.int p1), some (.int x6), some (.int r7.1), some (.int s8.1), some (.int s8.2.1), none], [.int (nI 1), .int x14])) 1 rfl ?_
                refine ax_Wp.brD hD rfl (fun _ hD => ?_) (fun _ hD => ?_)
                · refine ax_Wp.go (f' := (114, [some (.ref 130), some (.int p0), some (.int p1), some (.int x6), some (.int r7.1), some (.int s8.1), some (.int s8.2.1), none], [.int (nI 0)])) 1 rfl ?_
                  obtain rfl := inj hD
                  exact kkv11
                · refine ax_Wp.go (f' := (114, [some (.ref 130), some (.int p0), some (.int p1), some (.int x6), some (.int r7.1), some (.int s8.1), some (.int s8.2.1), none], [.int (nI 1)])) 2 rfl ?_
                  obtain rfl := inj hD
                  exact kkv11
          · refine ax_Wp.go (f' := (114, [some (.ref 130), some (.int p0), some (.int p1), some (.int x6), some (.int r7.1), some (.int s8.1), some (.int s8.2.1), none], [.int (nI 0)])) 1 rfl ?_
            obtain rfl := inj hD
            exact kkv11
      · refine ax_Wp.go (f' := (49, [some (.ref 130), some (.int p0), some (.int p1), some (.int x6), some (.int r7.1), none, none, none], [.int (nI 2), .ref 130])) 2 rfl ?_
        refine bnd hD (fun r19 hx hD => ?_)
        refine ax_Wp.callE (f' := (52, [some (.ref 130), some (.int p0), some (.int p1), some (.int x6), some (.int r7.1), none, none, none], [])) rfl rfl (w_143 (d := d + 2) hx) rfl ?_
        obtain rfl := inj hD
        exact ax_Wp.ret rfl ⟨rfl, rfl⟩
def D234 (m : dM) (p0 : Int32) : Option (Int32 × dM) := (fI m 130 7 (nI 0)).bind fun (m1 : dM) => (D146 p0).bind fun (x2 : Int32) => if x2 = (nI 0) then (D143 m1 (nI 1)).bind fun (r3 : Int32 × dM) => some (r3.1, r3.2) else Option.bind (lp (β := Int32 × dM) 3000 (fun (s4 : Int32 × Int32 × Int32 × dM) => if (rI s4.2.2.2 131 117) ≤ s4.2.2.1 then some (.inr (s4.1, s4.2.2.2)) else (D150 s4.2.2.2 p0 (nI 0)).bind fun (x6 : Int32) => (D152 s4.2.2.2 s4.2.2.1 (nI 0)).bind fun (x7 : Int32) => (D231 s4.2.2.2 p0 x6 x7).bind fun (r8 : Int32 × dM) => (D152 r8.2 s4.2.2.1 (nI 0)).bind fun (x9 : Int32) => (D152 r8.2 s4.2.2.1 (nI 1)).bind fun (x10 : Int32) => (D231 r8.2 p0 x9 x10).bind fun (r11 : Int32 × dM) => (D152 r11.2 s4.2.2.1 (nI 4)).bind fun (x12 : Int32) => Option.bind ((if x12 = (nI 0) then if r8.1 = (-1) then some (nI 0) else if r11.1 = (-1) then some (nI 0) else (D152 r11.2 s4.2.2.1 (nI 2)).bind fun (x14 : Int32) => (D160 r11.2 p0).bind fun (x15 : Int32) => if x15 < x14 then some (nI 0) else some (nI 1) else some (nI 0)) : Option (Int32)) fun (v13 : Int32) => Option.bind ((if v13 = (nI 0) then some (s4.1, s4.2.1) else if s4.1 = (-1) then some (s4.2.2.1, r8.1 + r11.1) else if (r8.1 + r11.1) < s4.2.1 then some (s4.2.2.1, r8.1 + r11.1) else if (r8.1 + r11.1) = s4.2.1 then (D152 r11.2 s4.2.2.1 (nI 3)).bind fun (x17 : Int32) => (D152 r11.2 s4.1 (nI 3)).bind fun (x18 : Int32) => if x17 ≤ x18 then some (s4.1, s4.2.1) else some (s4.2.2.1, r8.1 + r11.1) else some (s4.1, s4.2.1)) : Option (Int32 × Int32)) fun (v16 : Int32 × Int32) => some (.inl (v16.1, v16.2, s4.2.2.1 + (nI 1), r11.2))) ((-1), nI 0, nI 0, m1)) fun (v5 : Int32 × dM) => Option.bind ((if v5.1 = (-1) then (D143 v5.2 (nI 2)).bind fun (r20 : Int32 × dM) => some (r20.1, r20.2) else some (v5.1, v5.2)) : Option (Int32 × dM)) fun (v19 : Int32 × dM) => some (v19.1, v19.2)
set_option maxRecDepth 20000 in
theorem w_234 {X : Nat × (Nat → Int32)} {d : Nat} {m : dM} {p0 : Int32} {r : Int32 × dM} (hD : D234 m p0 = some r) : ax_Ev X (d + 4) 234 [.ref 130, .int p0] (stt m) (.inl (some (.int r.1))) (stt r.2) := by
  unfold D234 at hD
  show ax_Wp X (d + 3 + 1) 234 (0, [some (.ref 130), some (.int p0), none, none, none, none, none, none, none], []) (stt m) _
  refine ax_Wp.go (f' := (2, [some (.ref 130), some (.int p0), none, none, none, none, none, none, none], [.int (nI 0), .ref 130])) 2 rfl ?_
  refine ax_Wp.ptI hD rfl rfl rfl (fun m1 hD => ?_)
  refine ax_Wp.go (f' := (6, [some (.ref 130), some (.int p0), none, none, none, none, none, none, none], [.int p0])) 1 rfl ?_
  refine bnd hD (fun x2 hx hD => ?_)
  refine ax_Wp.callE (f' := (9, [some (.ref 130), some (.int p0), none, none, none, none, none, none, none], [])) rfl rfl (w_146 (d := d + 1) hx) rfl ?_
  refine ax_Wp.brD hD rfl (fun _ hD => ?_) (fun _ hD => ?_)
  · refine ax_Wp.go (f' := (14, [some (.ref 130), some (.int p0), none, none, none, none, none, none, none], [.int (nI 1), .ref 130])) 2 rfl ?_
    refine bnd hD (fun r3 hx hD => ?_)
    refine ax_Wp.callE (f' := (17, [some (.ref 130), some (.int p0), none, none, none, none, none, none, none], [])) rfl rfl (w_143 (d := d + 2) hx) rfl ?_
    obtain rfl := inj hD
    exact ax_Wp.ret rfl ⟨rfl, rfl⟩
  · refine ax_Wp.go (f' := (25, [some (.ref 130), some (.int p0), some (.int (-1)), some (.int (nI 0)), some (.int (nI 0)), none, none, none, none], [])) 6 rfl ?_
    refine bnd hD (fun v5 hx hD => ?_)
    refine ax_Wp.jn (F := (179, [some (.ref 130), none, some (.int v5.1), none, none, none, none, none, none], [])) (hh := stt v5.2) ?_ (fun kkv5 => ?_)
    · refine ax_Wp.go (f' := (181, [some (.ref 130), none, some (.int v5.1), none, none, none, none, none, none], [.int (-1), .int v5.1])) 2 rfl ?_
      refine bnd hD (fun v19 hx hD => ?_)
      refine ax_Wp.jn (F := (193, [some (.ref 130), none, none, none, none, none, none, none, none], [.int v19.1])) (hh := stt v19.2) ?_ (fun kkv19 => ?_)
      · obtain rfl := inj hD
        exact ax_Wp.ret rfl ⟨rfl, rfl⟩
      clear hD
      have hD := hx
      clear hx
      refine ax_Wp.brD hD rfl (fun _ hD => ?_) (fun _ hD => ?_)
      · refine ax_Wp.go (f' := (186, [some (.ref 130), none, some (.int v5.1), none, none, none, none, none, none], [.int (nI 2), .ref 130])) 2 rfl ?_
        refine bnd hD (fun r20 hx hD => ?_)
        refine ax_Wp.callE (f' := (189, [some (.ref 130), none, some (.int v5.1), none, none, none, none, none, none], [])) rfl rfl (w_143 (d := d + 2) hx) rfl ?_
        refine ax_Wp.go (f' := (193, [some (.ref 130), none, some (.int v5.1), none, none, none, none, none, none], [.int r20.1])) 1 rfl ?_
        obtain rfl := inj hD
        exact ax_Wp.dead kkv19 ⟨.inl rfl, ⟨.inl rfl, ⟨.inr ⟨rfl, trivial⟩, ⟨.inl rfl, ⟨.inl rfl, ⟨.inl rfl, ⟨.inl rfl, ⟨.inl rfl, ⟨.inl rfl, trivial⟩⟩⟩⟩⟩⟩⟩⟩⟩
      · refine ax_Wp.go (f' := (193, [some (.ref 130), none, some (.int v5.1), none, none, none, none, none, none], [.int v5.1])) 1 rfl ?_
        obtain rfl := inj hD
        exact ax_Wp.dead kkv19 ⟨.inl rfl, ⟨.inl rfl, ⟨.inr ⟨rfl, trivial⟩, ⟨.inl rfl, ⟨.inl rfl, ⟨.inl rfl, ⟨.inl rfl, ⟨.inl rfl, ⟨.inl rfl, trivial⟩⟩⟩⟩⟩⟩⟩⟩⟩
    clear hD
    refine ax_Wp.lpD (fun (s4 : Int32 × Int32 × Int32 × dM) => ((25, [some (.ref 130), some (.int p0), some (.int s4.1), some (.int s4.2.1), some (.int s4.2.2.1), none, none, none, none], []), stt s4.2.2.2)) ?_ hx
    clear hx
    intro s4 v hD ks4
    refine ax_Wp.go (f' := (34, [some (.ref 130), some (.int p0), some (.int s4.1), some (.int s4.2.1), some (.int s4.2.2.1), none, none, none, none], [.int (rI s4.2.2.2 131 117), .int s4.2.2.1])) 5 rfl ?_
    refine ax_Wp.brD hD rfl (fun _ hD => ?_) (fun _ hD => ?_)
    · obtain rfl := inj hD
      obtain rfl := ks4.o
      exact ax_Wp.dead kkv5 ⟨.inl rfl, ⟨.inr ⟨rfl, trivial⟩, ⟨.inl rfl, ⟨.inr ⟨rfl, trivial⟩, ⟨.inr ⟨rfl, trivial⟩, ⟨.inl rfl, ⟨.inl rfl, ⟨.inl rfl, ⟨.inl rfl, trivial⟩⟩⟩⟩⟩⟩⟩⟩⟩
    · refine ax_Wp.go (f' := (42, [some (.ref 130), some (.int p0), some (.int s4.1), some (.int s4.2.1), some (.int s4.2.2.1), none, none, none, none], [.int (nI 0), .int p0, .ref 130, .int p0, .ref 130])) 5 rfl ?_
      refine bnd hD (fun x6 hx hD => ?_)
      refine ax_Wp.callE (f' := (45, [some (.ref 130), some (.int p0), some (.int s4.1), some (.int s4.2.1), some (.int s4.2.2.1), none, none, none, none], [.int p0, .ref 130])) rfl rfl (w_150 (d := d + 2) hx) rfl ?_
      refine ax_Wp.go (f' := (49, [some (.ref 130), some (.int p0), some (.int s4.1), some (.int s4.2.1), some (.int s4.2.2.1), none, none, none, none], [.int (nI 0), .int s4.2.2.1, .ref 130, .int x6, .int p0, .ref 130])) 3 rfl ?_
      refine bnd hD (fun x7 hx hD => ?_)
      refine ax_Wp.callE (f' := (52, [some (.ref 130), some (.int p0), some (.int s4.1), some (.int s4.2.1), some (.int s4.2.2.1), none, none, none, none], [.int x6, .int p0, .ref 130])) rfl rfl (w_152 (d := d + 2) hx) rfl ?_
      refine bnd hD (fun r8 hx hD => ?_)
      refine ax_Wp.callE (f' := (55, [some (.ref 130), some (.int p0), some (.int s4.1), some (.int s4.2.1), some (.int s4.2.2.1), none, none, none, none], [])) rfl rfl (w_231 (d := d + 0) hx) rfl ?_
      refine ax_Wp.go (f' := (63, [some (.ref 130), some (.int p0), some (.int s4.1), some (.int s4.2.1), some (.int s4.2.2.1), some (.int r8.1), none, none, none], [.int (nI 0), .int s4.2.2.1, .ref 130, .int p0, .ref 130])) 6 rfl ?_
      refine bnd hD (fun x9 hx hD => ?_)
      refine ax_Wp.callE (f' := (66, [some (.ref 130), some (.int p0), some (.int s4.1), some (.int s4.2.1), some (.int s4.2.2.1), some (.int r8.1), none, none, none], [.int p0, .ref 130])) rfl rfl (w_152 (d := d + 2) hx) rfl ?_
      refine ax_Wp.go (f' := (70, [some (.ref 130), some (.int p0), some (.int s4.1), some (.int s4.2.1), some (.int s4.2.2.1), some (.int r8.1), none, none, none], [.int (nI 1), .int s4.2.2.1, .ref 130, .int x9, .int p0, .ref 130])) 3 rfl ?_
      refine bnd hD (fun x10 hx hD => ?_)
      refine ax_Wp.callE (f' := (73, [some (.ref 130), some (.int p0), some (.int s4.1), some (.int s4.2.1), some (.int s4.2.2.1), some (.int r8.1), none, none, none], [.int x9, .int p0, .ref 130])) rfl rfl (w_152 (d := d + 2) hx) rfl ?_
      refine bnd hD (fun r11 hx hD => ?_)
      refine ax_Wp.callE (f' := (76, [some (.ref 130), some (.int p0), some (.int s4.1), some (.int s4.2.1), some (.int s4.2.2.1), some (.int r8.1), none, none, none], [])) rfl rfl (w_231 (d := d + 0) hx) rfl ?_
      refine ax_Wp.go (f' := (82, [some (.ref 130), some (.int p0), some (.int s4.1), some (.int s4.2.1), some (.int s4.2.2.1), some (.int r8.1), some (.int r11.1), none, none], [.int (nI 4), .int s4.2.2.1, .ref 130])) 4 rfl ?_
      refine bnd hD (fun x12 hx hD => ?_)
      refine ax_Wp.callE (f' := (85, [some (.ref 130), some (.int p0), some (.int s4.1), some (.int s4.2.1), some (.int s4.2.2.1), some (.int r8.1), some (.int r11.1), none, none], [])) rfl rfl (w_152 (d := d + 2) hx) rfl ?_
      refine bnd hD (fun v13 hx hD => ?_)
      refine ax_Wp.jn (F := (120, [some (.ref 130), some (.int p0), some (.int s4.1), some (.int s4.2.1), some (.int s4.2.2.1), some (.int r8.1), some (.int r11.1), none, none], [.int v13])) (hh := stt r11.2) ?_ (fun kkv13 => ?_)
      · refine ax_Wp.go (f' := (131, [some (.ref 130), some (.int p0), some (.int s4.1), some (.int s4.2.1), some (.int s4.2.2.1), some (.int r8.1), some (.int r11.1), some (.int v13), some (.int (r8.1 + r11.1))], [.int v13])) 6 rfl ?_
        refine bnd hD (fun v16 hx hD => ?_)
        refine ax_Wp.jn (F := (173, [some (.ref 130), some (.int p0), some (.int v16.1), some (.int v16.2), some (.int s4.2.2.1), none, none, none, none], [])) (hh := stt r11.2) ?_ (fun kkv16 => ?_)
        · refine ax_Wp.go (f' := (25, [some (.ref 130), some (.int p0), some (.int v16.1), some (.int v16.2), some (.int (s4.2.2.1 + (nI 1))), none, none, none, none], [])) 2 rfl ?_
          obtain rfl := inj hD
          exact ks4.i
        clear hD
        have hD := hx
        clear hx
        refine ax_Wp.brD hD rfl (fun _ hD => ?_) (fun _ hD => ?_)
        · obtain rfl := inj hD
          exact ax_Wp.dead kkv16 ⟨.inl rfl, ⟨.inl rfl, ⟨.inl rfl, ⟨.inl rfl, ⟨.inl rfl, ⟨.inr ⟨rfl, trivial⟩, ⟨.inr ⟨rfl, trivial⟩, ⟨.inr ⟨rfl, trivial⟩, ⟨.inr ⟨rfl, trivial⟩, trivial⟩⟩⟩⟩⟩⟩⟩⟩⟩
        · refine ax_Wp.go (f' := (136, [some (.ref 130), some (.int p0), some (.int s4.1), some (.int s4.2.1), some (.int s4.2.2.1), some (.int r8.1), some (.int r11.1), some (.int v13), some (.int (r8.1 + r11.1))], [.int (-1), .int s4.1])) 2 rfl ?_
          refine ax_Wp.brD hD rfl (fun _ hD => ?_) (fun _ hD => ?_)
          · refine ax_Wp.go (f' := (173, [some (.ref 130), some (.int p0), some (.int s4.2.2.1), some (.int (r8.1 + r11.1)), some (.int s4.2.2.1), some (.int r8.1), some (.int r11.1), some (.int v13), some (.int (r8.1 + r11.1))], [])) 4 rfl ?_
            obtain rfl := inj hD
            exact ax_Wp.dead kkv16 ⟨.inl rfl, ⟨.inl rfl, ⟨.inl rfl, ⟨.inl rfl, ⟨.inl rfl, ⟨.inr ⟨rfl, trivial⟩, ⟨.inr ⟨rfl, trivial⟩, ⟨.inr ⟨rfl, trivial⟩, ⟨.inr ⟨rfl, trivial⟩, trivial⟩⟩⟩⟩⟩⟩⟩⟩⟩
          · refine ax_Wp.go (f' := (142, [some (.ref 130), some (.int p0), some (.int s4.1), some (.int s4.2.1), some (.int s4.2.2.1), some (.int r8.1), some (.int r11.1), some (.int v13), some (.int (r8.1 + r11.1))], [.int s4.2.1, .int (r8.1 + r11.1)])) 2 rfl ?_
            refine ax_Wp.brD hD rfl (fun _ hD => ?_) (fun _ hD => ?_)
            · refine ax_Wp.go (f' := (173, [some (.ref 130), some (.int p0), some (.int s4.2.2.1), some (.int (r8.1 + r11.1)), some (.int s4.2.2.1), some (.int r8.1), some (.int r11.1), some (.int v13), some (.int (r8.1 + r11.1))], [])) 4 rfl ?_
              obtain rfl := inj hD
              exact ax_Wp.dead kkv16 ⟨.inl rfl, ⟨.inl rfl, ⟨.inl rfl, ⟨.inl rfl, ⟨.inl rfl, ⟨.inr ⟨rfl, trivial⟩, ⟨.inr ⟨rfl, trivial⟩, ⟨.inr ⟨rfl, trivial⟩, ⟨.inr ⟨rfl, trivial⟩, trivial⟩⟩⟩⟩⟩⟩⟩⟩⟩
            · refine ax_Wp.go (f' := (148, [some (.ref 130), some (.int p0), some (.int s4.1), some (.int s4.2.1), some (.int s4.2.2.1), some (.int r8.1), some (.int r11.1), some (.int v13), some (.int (r8.1 + r11.1))], [.int s4.2.1, .int (r8.1 + r11.1)])) 2 rfl ?_
              refine ax_Wp.brD hD rfl (fun _ hD => ?_) (fun _ hD => ?_)
              · refine ax_Wp.go (f' := (155, [some (.ref 130), some (.int p0), some (.int s4.1), some (.int s4.2.1), some (.int s4.2.2.1), some (.int r8.1), some (.int r11.1), some (.int v13), some (.int (r8.1 + r11.1))], [.int (nI 3), .int s4.2.2.1, .ref 130])) 3 rfl ?_
                refine bnd hD (fun x17 hx hD => ?_)
                refine ax_Wp.callE (f' := (158, [some (.ref 130), some (.int p0), some (.int s4.1), some (.int s4.2.1), some (.int s4.2.2.1), some (.int r8.1), some (.int r11.1), some (.int v13), some (.int (r8.1 + r11.1))], [])) rfl rfl (w_152 (d := d + 2) hx) rfl ?_
                refine ax_Wp.go (f' := (161, [some (.ref 130), some (.int p0), some (.int s4.1), some (.int s4.2.1), some (.int s4.2.2.1), some (.int r8.1), some (.int r11.1), some (.int v13), some (.int (r8.1 + r11.1))], [.int (nI 3), .int s4.1, .ref 130, .int x17])) 3 rfl ?_
                refine bnd hD (fun x18 hx hD => ?_)
                refine ax_Wp.callE (f' := (164, [some (.ref 130), some (.int p0), some (.int s4.1), some (.int s4.2.1), some (.int s4.2.2.1), some (.int r8.1), some (.int r11.1), some (.int v13), some (.int (r8.1 + r11.1))], [.int x17])) rfl rfl (w_152 (d := d + 2) hx) rfl ?_
                refine ax_Wp.brD hD rfl (fun _ hD => ?_) (fun _ hD => ?_)
                · obtain rfl := inj hD
                  exact ax_Wp.dead kkv16 ⟨.inl rfl, ⟨.inl rfl, ⟨.inl rfl, ⟨.inl rfl, ⟨.inl rfl, ⟨.inr ⟨rfl, trivial⟩, ⟨.inr ⟨rfl, trivial⟩, ⟨.inr ⟨rfl, trivial⟩, ⟨.inr ⟨rfl, trivial⟩, trivial⟩⟩⟩⟩⟩⟩⟩⟩⟩
                · refine ax_Wp.go (f' := (173, [some (.ref 130), some (.int p0), some (.int s4.2.2.1), some (.int (r8.1 + r11.1)), some (.int s4.2.2.1), some (.int r8.1), some (.int r11.1), some (.int v13), some (.int (r8.1 + r11.1))], [])) 4 rfl ?_
                  obtain rfl := inj hD
                  exact ax_Wp.dead kkv16 ⟨.inl rfl, ⟨.inl rfl, ⟨.inl rfl, ⟨.inl rfl, ⟨.inl rfl, ⟨.inr ⟨rfl, trivial⟩, ⟨.inr ⟨rfl, trivial⟩, ⟨.inr ⟨rfl, trivial⟩, ⟨.inr ⟨rfl, trivial⟩, trivial⟩⟩⟩⟩⟩⟩⟩⟩⟩
              · obtain rfl := inj hD
                exact ax_Wp.dead kkv16 ⟨.inl rfl, ⟨.inl rfl, ⟨.inl rfl, ⟨.inl rfl, ⟨.inl rfl, ⟨.inr ⟨rfl, trivial⟩, ⟨.inr ⟨rfl, trivial⟩, ⟨.inr ⟨rfl, trivial⟩, ⟨.inr ⟨rfl, trivial⟩, trivial⟩⟩⟩⟩⟩⟩⟩⟩⟩
      clear hD
      have hD := hx
      clear hx
      refine ax_Wp.brD hD rfl (fun _ hD => ?_) (fun _ hD => ?_)
      · refine ax_Wp.go (f' := (91, [some (.ref 130), some (.int p0), some (.int s4.1), some (.int s4.2.1), some (.int s4.2.2.1), some (.int r8.1), some (.int r11.1), none, none], [.int (-1), .int r8.1])) 2 rfl ?_
        refine ax_Wp.brD hD rfl (fun _ hD => ?_) (fun _ hD => ?_)
        · refine ax_Wp.go (f' := (120, [some (.ref 130), some (.int p0), some (.int s4.1), some (.int s4.2.1), some (.int s4.2.2.1), some (.int r8.1), some (.int r11.1), none, none], [.int (nI 0)])) 1 rfl ?_
          obtain rfl := inj hD
          exact kkv13
        · refine ax_Wp.go (f' := (97, [some (.ref 130), some (.int p0), some (.int s4.1), some (.int s4.2.1), some (.int s4.2.2.1), some (.int r8.1), some (.int r11.1), none, none], [.int (-1), .int r11.1])) 2 rfl ?_
          refine ax_Wp.brD hD rfl (fun _ hD => ?_) (fun _ hD => ?_)
          · refine ax_Wp.go (f' := (120, [some (.ref 130), some (.int p0), some (.int s4.1), some (.int s4.2.1), some (.int s4.2.2.1), some (.int r8.1), some (.int r11.1), none, none], [.int (nI 0)])) 1 rfl ?_
            obtain rfl := inj hD
            exact kkv13
          · refine ax_Wp.go (f' := (104, [some (.ref 130), some (.int p0), some (.int s4.1), some (.int s4.2.1), some (.int s4.2.2.1), some (.int r8.1), some (.int r11.1), none, none], [.int (nI 2), .int s4.2.2.1, .ref 130])) 3 rfl ?_
            refine bnd hD (fun x14 hx hD => ?_)
            refine ax_Wp.callE (f' := (107, [some (.ref 130), some (.int p0), some (.int s4.1), some (.int s4.2.1), some (.int s4.2.2.1), some (.int r8.1), some (.int r11.1), none, none], [])) rfl rfl (w_152 (d := d + 2) hx) rfl ?_
            refine ax_Wp.go (f' := (109, [some (.ref 130), some (.int p0), some (.int s4.1), some (.int s4.2.1), some (.int s4.2.2.1), some (.int r8.1), some (.int r11.1), none, none], [.int p0, .ref 130, .int x14])) 2 rfl ?_
            refine bnd hD (fun x15 hx hD => ?_)
            refine ax_Wp.callE (f' := (112, [some (.ref 130), some (.int p0), some (.int s4.1), some (.int s4.2.1), some (.int s4.2.2.1), some (.int r8.1), some (.int r11.1), none, none], [.int x14])) rfl rfl (w_160 (d := d + 1) hx) rfl ?_
            refine ax_Wp.brD hD rfl (fun _ hD => ?_) (fun _ hD => ?_)
            · refine ax_Wp.go (f' := (120, [some (.ref 130), some (.int p0), some (.int s4.1), some (.int s4.2.1), some (.int s4.2.2.1), some (.int r8.1), some (.int r11.1), none, none], [.int (nI 0)])) 1 rfl ?_
              obtain rfl := inj hD
              exact kkv13
            · refine ax_Wp.go (f' := (120, [some (.ref 130), some (.int p0), some (.int s4.1), some (.int s4.2.1), some (.int s4.2.2.1), some (.int r8.1), some (.int r11.1), none, none], [.int (nI 1)])) 2 rfl ?_
              obtain rfl := inj hD
              exact kkv13
      · refine ax_Wp.go (f' := (120, [some (.ref 130), some (.int p0), some (.int s4.1), some (.int s4.2.1), some (.int s4.2.2.1), some (.int r8.1), some (.int r11.1), none, none], [.int (nI 0)])) 1 rfl ?_
        obtain rfl := inj hD
        exact kkv13
def D235 (m : dM) (p0 : Int32) (p1 : Int32) : Option (Int32 × dM) := (fI m 130 7 (nI 0)).bind fun (m1 : dM) => (D146 p0).bind fun (x2 : Int32) => Option.bind ((if x2 = (nI 0) then (D143 m1 (nI 1)).bind fun (r4 : Int32 × dM) => some (r4.1, r4.2) else (D147 m1 p1).bind fun (x5 : Int32) => if x5 = (nI 0) then (D143 m1 (nI 1)).bind fun (r6 : Int32 × dM) => some (r6.1, r6.2) else (D169 m1 p0 p1).bind fun (x7 : Int32) => some (x7, m1)) : Option (Int32 × dM)) fun (v3 : Int32 × dM) => some (v3.1, v3.2)
set_option maxRecDepth 20000 in
theorem w_235 {X : Nat × (Nat → Int32)} {d : Nat} {m : dM} {p0 : Int32} {p1 : Int32} {r : Int32 × dM} (hD : D235 m p0 p1 = some r) : ax_Ev X (d + 6) 235 [.ref 130, .int p0, .int p1] (stt m) (.inl (some (.int r.1))) (stt r.2) := by
  unfold D235 at hD
  show ax_Wp X (d + 5 + 1) 235 (0, [some (.ref 130), some (.int p0), some (.int p1)], []) (stt m) _
  refine ax_Wp.go (f' := (2, [some (.ref 130), some (.int p0), some (.int p1)], [.int (nI 0), .ref 130])) 2 rfl ?_
  refine ax_Wp.ptI hD rfl rfl rfl (fun m1 hD => ?_)
  refine ax_Wp.go (f' := (6, [some (.ref 130), some (.int p0), some (.int p1)], [.int p0])) 1 rfl ?_
  refine bnd hD (fun x2 hx hD => ?_)
  refine ax_Wp.callE (f' := (9, [some (.ref 130), some (.int p0), some (.int p1)], [])) rfl rfl (w_146 (d := d + 3) hx) rfl ?_
  refine bnd hD (fun v3 hx hD => ?_)
  refine ax_Wp.jn (F := (34, [some (.ref 130), none, none], [.int v3.1])) (hh := stt v3.2) ?_ (fun kkv3 => ?_)
  · obtain rfl := inj hD
    exact ax_Wp.ret rfl ⟨rfl, rfl⟩
  clear hD
  have hD := hx
  clear hx
  refine ax_Wp.brD hD rfl (fun _ hD => ?_) (fun _ hD => ?_)
  · refine ax_Wp.go (f' := (31, [some (.ref 130), some (.int p0), some (.int p1)], [.int (nI 1), .ref 130])) 2 rfl ?_
    refine bnd hD (fun r4 hx hD => ?_)
    refine ax_Wp.callE (f' := (34, [some (.ref 130), some (.int p0), some (.int p1)], [])) rfl rfl (w_143 (d := d + 4) hx) rfl ?_
    obtain rfl := inj hD
    exact ax_Wp.dead kkv3 ⟨.inl rfl, ⟨.inr ⟨rfl, trivial⟩, ⟨.inr ⟨rfl, trivial⟩, trivial⟩⟩⟩
  · refine ax_Wp.go (f' := (14, [some (.ref 130), some (.int p0), some (.int p1)], [.int p1, .ref 130])) 2 rfl ?_
    refine bnd hD (fun x5 hx hD => ?_)
    refine ax_Wp.callE (f' := (17, [some (.ref 130), some (.int p0), some (.int p1)], [])) rfl rfl (w_147 (d := d + 3) hx) rfl ?_
    refine ax_Wp.brD hD rfl (fun _ hD => ?_) (fun _ hD => ?_)
    · refine ax_Wp.go (f' := (31, [some (.ref 130), some (.int p0), some (.int p1)], [.int (nI 1), .ref 130])) 2 rfl ?_
      refine bnd hD (fun r6 hx hD => ?_)
      refine ax_Wp.callE (f' := (34, [some (.ref 130), some (.int p0), some (.int p1)], [])) rfl rfl (w_143 (d := d + 4) hx) rfl ?_
      obtain rfl := inj hD
      exact ax_Wp.dead kkv3 ⟨.inl rfl, ⟨.inr ⟨rfl, trivial⟩, ⟨.inr ⟨rfl, trivial⟩, trivial⟩⟩⟩
    · refine ax_Wp.go (f' := (23, [some (.ref 130), some (.int p0), some (.int p1)], [.int p1, .int p0, .ref 130])) 3 rfl ?_
      refine bnd hD (fun x7 hx hD => ?_)
      refine ax_Wp.callE (f' := (26, [some (.ref 130), some (.int p0), some (.int p1)], [])) rfl rfl (w_169 (d := d + 0) hx) rfl ?_
      refine ax_Wp.go (f' := (34, [some (.ref 130), some (.int p0), some (.int p1)], [.int x7])) 1 rfl ?_
      obtain rfl := inj hD
      exact ax_Wp.dead kkv3 ⟨.inl rfl, ⟨.inr ⟨rfl, trivial⟩, ⟨.inr ⟨rfl, trivial⟩, trivial⟩⟩⟩
def D236 (m : dM) (p0 : Int32) : Option (Int32 × dM) := (fI m 130 7 (nI 0)).bind fun (m1 : dM) => (D172 m1).bind fun (r2 : dM) => (D146 p0).bind fun (x3 : Int32) => Option.bind ((if x3 = (nI 0) then (D143 r2 (nI 1)).bind fun (r5 : Int32 × dM) => some (r5.1, r5.2) else (gI r2 135 4 p0).bind fun (x6 : Int32) => some (x6, r2)) : Option (Int32 × dM)) fun (v4 : Int32 × dM) => some (v4.1, v4.2)
set_option maxRecDepth 20000 in
theorem w_236 {X : Nat × (Nat → Int32)} {d : Nat} {m : dM} {p0 : Int32} {r : Int32 × dM} (hD : D236 m p0 = some r) : ax_Ev X (d + 5) 236 [.ref 130, .int p0] (stt m) (.inl (some (.int r.1))) (stt r.2) := by
  unfold D236 at hD
  show ax_Wp X (d + 4 + 1) 236 (0, [some (.ref 130), some (.int p0)], []) (stt m) _
  refine ax_Wp.go (f' := (2, [some (.ref 130), some (.int p0)], [.int (nI 0), .ref 130])) 2 rfl ?_
  refine ax_Wp.ptI hD rfl rfl rfl (fun m1 hD => ?_)
  refine ax_Wp.go (f' := (6, [some (.ref 130), some (.int p0)], [.ref 130])) 1 rfl ?_
  refine bnd hD (fun r2 hx hD => ?_)
  refine ax_Wp.callE (f' := (9, [some (.ref 130), some (.int p0)], [])) rfl rfl (w_172 (d := d + 0) hx) rfl ?_
  refine ax_Wp.go (f' := (10, [some (.ref 130), some (.int p0)], [.int p0])) 1 rfl ?_
  refine bnd hD (fun x3 hx hD => ?_)
  refine ax_Wp.callE (f' := (13, [some (.ref 130), some (.int p0)], [])) rfl rfl (w_146 (d := d + 2) hx) rfl ?_
  refine bnd hD (fun v4 hx hD => ?_)
  refine ax_Wp.jn (F := (30, [some (.ref 130), none], [.int v4.1])) (hh := stt v4.2) ?_ (fun kkv4 => ?_)
  · obtain rfl := inj hD
    exact ax_Wp.ret rfl ⟨rfl, rfl⟩
  clear hD
  have hD := hx
  clear hx
  refine ax_Wp.brD hD rfl (fun _ hD => ?_) (fun _ hD => ?_)
  · refine ax_Wp.go (f' := (27, [some (.ref 130), some (.int p0)], [.int (nI 1), .ref 130])) 2 rfl ?_
    refine bnd hD (fun r5 hx hD => ?_)
    refine ax_Wp.callE (f' := (30, [some (.ref 130), some (.int p0)], [])) rfl rfl (w_143 (d := d + 3) hx) rfl ?_
    obtain rfl := inj hD
    exact ax_Wp.dead kkv4 ⟨.inl rfl, ⟨.inr ⟨rfl, trivial⟩, trivial⟩⟩
  · refine ax_Wp.go (f' := (21, [some (.ref 130), some (.int p0)], [.int p0, .ref 135])) 3 rfl ?_
    refine ax_Wp.rdI hD rfl rfl rfl (fun x6 hD => ?_)
    refine ax_Wp.go (f' := (30, [some (.ref 130), some (.int p0)], [.int x6])) 1 rfl ?_
    obtain rfl := inj hD
    exact ax_Wp.dead kkv4 ⟨.inl rfl, ⟨.inr ⟨rfl, trivial⟩, trivial⟩⟩
def D120 (m : dM) : Option (UInt32) := Option.bind (lp (β := Int32) 3000 (fun (s1 : Int32 × Int32) => if (nI 4) ≤ s1.2 then some (.inr s1.1) else (D34 m s1.2).bind fun (x3 : Int32) => some (.inl (s1.1 + x3, s1.2 + (nI 1)))) (nI 0, nI 0)) fun (v2 : Int32) => (gF (FP.fdiv (FP.i2f v2) (1082130432 : UInt32))).bind fun (x4 : UInt32) => some x4
set_option maxRecDepth 20000 in
theorem w_120 {X : Nat × (Nat → Int32)} {d : Nat} {m : dM} {r : UInt32} (hD : D120 m = some r) : ax_Ev X (d + 2) 120 [.ref 0] (stt m) (.inl (some (.float r))) (stt m) := by
  unfold D120 at hD
  show ax_Wp X (d + 1 + 1) 120 (0, [some (.ref 0), none, none], []) (stt m) _
  refine ax_Wp.go (f' := (4, [some (.ref 0), some (.int (nI 0)), some (.int (nI 0))], [])) 4 rfl ?_
  refine bnd hD (fun v2 hx hD => ?_)
  refine ax_Wp.jn (F := (29, [some (.ref 0), some (.int v2), none], [])) (hh := stt m) ?_ (fun kkv2 => ?_)
  · refine ax_Wp.go (f' := (34, [some (.ref 0), some (.int v2), none], [.float (1082130432 : UInt32), .float (FP.i2f v2)])) 3 rfl ?_
    refine ax_Wp.flF hD rfl (fun x4 hD => ?_)
    obtain rfl := inj hD
    exact ax_Wp.ret rfl ⟨rfl, rfl⟩
  clear hD
  refine ax_Wp.lpD (fun (s1 : Int32 × Int32) => ((4, [some (.ref 0), some (.int s1.1), some (.int s1.2)], []), stt m)) ?_ hx
  clear hx
  intro s1 v hD ks1
  refine ax_Wp.go (f' := (6, [some (.ref 0), some (.int s1.1), some (.int s1.2)], [.int (nI 4), .int s1.2])) 2 rfl ?_
  refine ax_Wp.brD hD rfl (fun _ hD => ?_) (fun _ hD => ?_)
  · obtain rfl := inj hD
    obtain rfl := ks1.o
    exact ax_Wp.dead kkv2 ⟨.inl rfl, ⟨.inl rfl, ⟨.inr ⟨rfl, trivial⟩, trivial⟩⟩⟩
  · refine ax_Wp.go (f' := (18, [some (.ref 0), some (.int s1.1), some (.int s1.2)], [.int s1.2, .ref 10, .int s1.1])) 5 rfl ?_
    refine bnd hD (fun x3 hx hD => ?_)
    refine ax_Wp.callE (f' := (21, [some (.ref 0), some (.int s1.1), some (.int s1.2)], [.int s1.1])) rfl rfl (w_34 (d := d + 0) hx) rfl ?_
    refine ax_Wp.go (f' := (4, [some (.ref 0), some (.int (s1.1 + x3)), some (.int (s1.2 + (nI 1)))], [])) 4 rfl ?_
    obtain rfl := inj hD
    exact ks1.i
def D237 (m : dM) : Option (UInt32) := (D158 m (nI 0)).bind fun (x1 : Int32) => (D158 m (nI 1)).bind fun (x2 : Int32) => (D158 m (nI 2)).bind fun (x3 : Int32) => (D158 m (nI 3)).bind fun (x4 : Int32) => (gF (FP.fdiv (FP.i2f (((x1 + x2) + x3) + x4)) (1082130432 : UInt32))).bind fun (x5 : UInt32) => some x5
set_option maxRecDepth 20000 in
theorem w_237 {X : Nat × (Nat → Int32)} {d : Nat} {m : dM} {r : UInt32} (hD : D237 m = some r) : ax_Ev X (d + 3) 237 [.ref 130] (stt m) (.inl (some (.float r))) (stt m) := by
  unfold D237 at hD
  show ax_Wp X (d + 2 + 1) 237 (0, [some (.ref 130)], []) (stt m) _
  refine ax_Wp.go (f' := (2, [some (.ref 130)], [.int (nI 0), .ref 130])) 2 rfl ?_
  refine bnd hD (fun x1 hx hD => ?_)
  refine ax_Wp.callE (f' := (5, [some (.ref 130)], [])) rfl rfl (w_158 (d := d + 0) hx) rfl ?_
  refine ax_Wp.go (f' := (7, [some (.ref 130)], [.int (nI 1), .ref 130, .int x1])) 2 rfl ?_
  refine bnd hD (fun x2 hx hD => ?_)
  refine ax_Wp.callE (f' := (10, [some (.ref 130)], [.int x1])) rfl rfl (w_158 (d := d + 0) hx) rfl ?_
  refine ax_Wp.go (f' := (13, [some (.ref 130)], [.int (nI 2), .ref 130, .int (x1 + x2)])) 3 rfl ?_
  refine bnd hD (fun x3 hx hD => ?_)
  refine ax_Wp.callE (f' := (16, [some (.ref 130)], [.int (x1 + x2)])) rfl rfl (w_158 (d := d + 0) hx) rfl ?_
  refine ax_Wp.go (f' := (19, [some (.ref 130)], [.int (nI 3), .ref 130, .int ((x1 + x2) + x3)])) 3 rfl ?_
  refine bnd hD (fun x4 hx hD => ?_)
  refine ax_Wp.callE (f' := (22, [some (.ref 130)], [.int ((x1 + x2) + x3)])) rfl rfl (w_158 (d := d + 0) hx) rfl ?_
  refine ax_Wp.go (f' := (26, [some (.ref 130)], [.float (1082130432 : UInt32), .float (FP.i2f (((x1 + x2) + x3) + x4))])) 3 rfl ?_
  refine ax_Wp.flF hD rfl (fun x5 hD => ?_)
  obtain rfl := inj hD
  exact ax_Wp.ret rfl ⟨rfl, rfl⟩
def D239 (m : dM) : Option (UInt32 × dM) := (fI m 130 7 (nI 0)).bind fun (m1 : dM) => (D237 m1).bind fun (x2 : UInt32) => some (x2, m1)
set_option maxRecDepth 20000 in
theorem w_239 {X : Nat × (Nat → Int32)} {d : Nat} {m : dM} {r : UInt32 × dM} (hD : D239 m = some r) : ax_Ev X (d + 4) 239 [.ref 130] (stt m) (.inl (some (.float r.1))) (stt r.2) := by
  unfold D239 at hD
  show ax_Wp X (d + 3 + 1) 239 (0, [some (.ref 130)], []) (stt m) _
  refine ax_Wp.go (f' := (2, [some (.ref 130)], [.int (nI 0), .ref 130])) 2 rfl ?_
  refine ax_Wp.ptI hD rfl rfl rfl (fun m1 hD => ?_)
  refine ax_Wp.go (f' := (6, [some (.ref 130)], [.ref 130])) 1 rfl ?_
  refine bnd hD (fun x2 hx hD => ?_)
  refine ax_Wp.callE (f' := (9, [some (.ref 130)], [])) rfl rfl (w_237 (d := d + 0) hx) rfl ?_
  obtain rfl := inj hD
  exact ax_Wp.ret rfl ⟨rfl, rfl⟩
def D121 (m : dM) : Option (UInt64) := if (nI 0) < (rI m 10 4) then (D35 m).bind fun (x1 : Int32) => (gD (FP.ddiv (FP.i2d x1) (FP.i2d (rI m 10 4)))).bind fun (x2 : UInt64) => some x2 else some FP.dconst0
set_option maxRecDepth 20000 in
theorem w_121 {X : Nat × (Nat → Int32)} {d : Nat} {m : dM} {r : UInt64} (hD : D121 m = some r) : ax_Ev X (d + 2) 121 [.ref 0] (stt m) (.inl (some (.double r))) (stt m) := by
  unfold D121 at hD
  show ax_Wp X (d + 1 + 1) 121 (0, [some (.ref 0), none], []) (stt m) _
  refine ax_Wp.go (f' := (12, [some (.ref 0), some (.int (rI m 10 4))], [.int (rI m 10 4)])) 6 rfl ?_
  refine ax_Wp.brD hD rfl (fun _ hD => ?_) (fun _ hD => ?_)
  · refine ax_Wp.go (f' := (24, [some (.ref 0), some (.int (rI m 10 4))], [.ref 10])) 3 rfl ?_
    refine bnd hD (fun x1 hx hD => ?_)
    refine ax_Wp.callE (f' := (27, [some (.ref 0), some (.int (rI m 10 4))], [])) rfl rfl (w_35 (d := d + 0) hx) rfl ?_
    refine ax_Wp.go (f' := (30, [some (.ref 0), some (.int (rI m 10 4))], [.double (FP.i2d (rI m 10 4)), .double (FP.i2d x1)])) 3 rfl ?_
    refine ax_Wp.flD hD rfl (fun x2 hD => ?_)
    obtain rfl := inj hD
    exact ax_Wp.ret rfl ⟨rfl, rfl⟩
  · refine ax_Wp.go (f' := (16, [some (.ref 0), some (.int (rI m 10 4))], [.double FP.dconst0])) 1 rfl ?_
    obtain rfl := inj hD
    exact ax_Wp.ret rfl ⟨rfl, rfl⟩
def D238 (m : dM) : Option (UInt64) := Option.bind (lp (β := Int32) 3000 (fun (s1 : Int32 × Int32) => if (rI m 131 117) ≤ s1.2 then some (.inr s1.1) else (D152 m s1.2 (nI 4)).bind fun (x3 : Int32) => Option.bind ((if x3 = (nI 2) then some (nI 1) else some (nI 0)) : Option (Int32)) fun (v4 : Int32) => some (.inl (s1.1 + v4, s1.2 + (nI 1)))) (nI 0, nI 0)) fun (v2 : Int32) => Option.bind ((if (rI m 131 117) = (nI 0) then some FP.dconst0 else (gD (FP.ddiv (FP.i2d v2) (FP.i2d (rI m 131 117)))).bind fun (x6 : UInt64) => some x6) : Option (UInt64)) fun (v5 : UInt64) => some v5
set_option maxRecDepth 20000 in
theorem w_238 {X : Nat × (Nat → Int32)} {d : Nat} {m : dM} {r : UInt64} (hD : D238 m = some r) : ax_Ev X (d + 2) 238 [.ref 130] (stt m) (.inl (some (.double r))) (stt m) := by
  unfold D238 at hD
  show ax_Wp X (d + 1 + 1) 238 (0, [some (.ref 130), none, none], []) (stt m) _
  refine ax_Wp.go (f' := (4, [some (.ref 130), some (.int (nI 0)), some (.int (nI 0))], [])) 4 rfl ?_
  refine bnd hD (fun v2 hx hD => ?_)
  refine ax_Wp.jn (F := (39, [some (.ref 130), some (.int v2), none], [])) (hh := stt m) ?_ (fun kkv2 => ?_)
  · refine ax_Wp.go (f' := (46, [some (.ref 130), some (.int v2), none], [.int (rI m 131 117)])) 4 rfl ?_
    refine bnd hD (fun v5 hx hD => ?_)
    refine ax_Wp.jn (F := (64, [some (.ref 130), none, none], [.double v5])) (hh := stt m) ?_ (fun kkv5 => ?_)
    · obtain rfl := inj hD
      exact ax_Wp.ret rfl ⟨rfl, rfl⟩
    clear hD
    have hD := hx
    clear hx
    refine ax_Wp.brD hD rfl (fun _ hD => ?_) (fun _ hD => ?_)
    · refine ax_Wp.go (f' := (64, [some (.ref 130), some (.int v2), none], [.double FP.dconst0])) 2 rfl ?_
      obtain rfl := inj hD
      exact ax_Wp.dead kkv5 ⟨.inl rfl, ⟨.inr ⟨rfl, trivial⟩, ⟨.inl rfl, trivial⟩⟩⟩
    · refine ax_Wp.go (f' := (63, [some (.ref 130), some (.int v2), none], [.double (FP.i2d (rI m 131 117)), .double (FP.i2d v2)])) 7 rfl ?_
      refine ax_Wp.flD hD rfl (fun x6 hD => ?_)
      obtain rfl := inj hD
      exact ax_Wp.dead kkv5 ⟨.inl rfl, ⟨.inr ⟨rfl, trivial⟩, ⟨.inl rfl, trivial⟩⟩⟩
  clear hD
  refine ax_Wp.lpD (fun (s1 : Int32 × Int32) => ((4, [some (.ref 130), some (.int s1.1), some (.int s1.2)], []), stt m)) ?_ hx
  clear hx
  intro s1 v hD ks1
  refine ax_Wp.go (f' := (12, [some (.ref 130), some (.int s1.1), some (.int s1.2)], [.int (rI m 131 117), .int s1.2])) 5 rfl ?_
  refine ax_Wp.brD hD rfl (fun _ hD => ?_) (fun _ hD => ?_)
  · obtain rfl := inj hD
    obtain rfl := ks1.o
    exact ax_Wp.dead kkv2 ⟨.inl rfl, ⟨.inl rfl, ⟨.inr ⟨rfl, trivial⟩, trivial⟩⟩⟩
  · refine ax_Wp.go (f' := (19, [some (.ref 130), some (.int s1.1), some (.int s1.2)], [.int (nI 4), .int s1.2, .ref 130, .int s1.1])) 4 rfl ?_
    refine bnd hD (fun x3 hx hD => ?_)
    refine ax_Wp.callE (f' := (22, [some (.ref 130), some (.int s1.1), some (.int s1.2)], [.int s1.1])) rfl rfl (w_152 (d := d + 0) hx) rfl ?_
    refine ax_Wp.go (f' := (23, [some (.ref 130), some (.int s1.1), some (.int s1.2)], [.int (nI 2), .int x3, .int s1.1])) 1 rfl ?_
    refine bnd hD (fun v4 hx hD => ?_)
    refine ax_Wp.jn (F := (31, [some (.ref 130), none, some (.int s1.2)], [.int v4, .int s1.1])) (hh := stt m) ?_ (fun kkv4 => ?_)
    · refine ax_Wp.go (f' := (4, [some (.ref 130), some (.int (s1.1 + v4)), some (.int (s1.2 + (nI 1)))], [])) 4 rfl ?_
      obtain rfl := inj hD
      exact ks1.i
    clear hD
    have hD := hx
    clear hx
    refine ax_Wp.brD hD rfl (fun _ hD => ?_) (fun _ hD => ?_)
    · refine ax_Wp.go (f' := (31, [some (.ref 130), some (.int s1.1), some (.int s1.2)], [.int (nI 1), .int s1.1])) 2 rfl ?_
      obtain rfl := inj hD
      exact ax_Wp.dead kkv4 ⟨.inl rfl, ⟨.inr ⟨rfl, trivial⟩, ⟨.inl rfl, trivial⟩⟩⟩
    · refine ax_Wp.go (f' := (31, [some (.ref 130), some (.int s1.1), some (.int s1.2)], [.int (nI 0), .int s1.1])) 1 rfl ?_
      obtain rfl := inj hD
      exact ax_Wp.dead kkv4 ⟨.inl rfl, ⟨.inr ⟨rfl, trivial⟩, ⟨.inl rfl, trivial⟩⟩⟩
def D240 (m : dM) : Option (UInt64 × dM) := (fI m 130 7 (nI 0)).bind fun (m1 : dM) => (D238 m1).bind fun (x2 : UInt64) => some (x2, m1)
set_option maxRecDepth 20000 in
theorem w_240 {X : Nat × (Nat → Int32)} {d : Nat} {m : dM} {r : UInt64 × dM} (hD : D240 m = some r) : ax_Ev X (d + 3) 240 [.ref 130] (stt m) (.inl (some (.double r.1))) (stt r.2) := by
  unfold D240 at hD
  show ax_Wp X (d + 2 + 1) 240 (0, [some (.ref 130)], []) (stt m) _
  refine ax_Wp.go (f' := (2, [some (.ref 130)], [.int (nI 0), .ref 130])) 2 rfl ?_
  refine ax_Wp.ptI hD rfl rfl rfl (fun m1 hD => ?_)
  refine ax_Wp.go (f' := (6, [some (.ref 130)], [.ref 130])) 1 rfl ?_
  refine bnd hD (fun x2 hx hD => ?_)
  refine ax_Wp.callE (f' := (9, [some (.ref 130)], [])) rfl rfl (w_238 (d := d + 0) hx) rfl ?_
  obtain rfl := inj hD
  exact ax_Wp.ret rfl ⟨rfl, rfl⟩
def D137 (p0 : Int64) (p1 : Int64) : Option (Int64) := some (((31 : Int64) * p0) + p1)
set_option maxRecDepth 20000 in
theorem w_137 {X : Nat × (Nat → Int32)} {d : Nat} {m : dM} {p0 : Int64} {p1 : Int64} {r : Int64} (hD : D137 p0 p1 = some r) : ax_Ev X (d + 1) 137 [.long p0, .long p1] (stt m) (.inl (some (.long r))) (stt m) := by
  unfold D137 at hD
  show ax_Wp X (d + 0 + 1) 137 (0, [some (.long p0), none, some (.long p1), none], []) (stt m) _
  refine ax_Wp.go (f' := (7, [some (.long p0), none, some (.long p1), none], [.long (((31 : Int64) * p0) + p1)])) 5 rfl ?_
  obtain rfl := inj hD
  exact ax_Wp.ret rfl ⟨rfl, rfl⟩
def D134 (m : dM) (p0 : Int64) : Option (Int64 ⊕ Nat) := (D90 m).bind fun (x1 : Int32) => (D137 p0 x1.toInt64).bind fun (x2 : Int64) => (D101 m).bind fun (x3 : Int32) => (D137 x2 x3.toInt64).bind fun (x4 : Int64) => (D108 m).bind fun (x5 : Int32) => (D137 x4 x5.toInt64).bind fun (x6 : Int64) => (D109 m).bind fun (x7 : Int32) => (D137 x6 x7.toInt64).bind fun (x8 : Int64) => (D110 m).bind fun (x9 : Int32) => (D137 x8 x9.toInt64).bind fun (x10 : Int64) => (D111 m).bind fun (x11 : Int32) => (D137 x10 x11.toInt64).bind fun (x12 : Int64) => (D112 m).bind fun (x13 : Int32) => (D137 x12 x13.toInt64).bind fun (x14 : Int64) => lp (β := Int64 ⊕ Nat) 3000 (fun (s15 : Int64 × Int32) => if (nI 2) ≤ s15.2 then (D89 m).bind fun (x16 : Int32) => (D137 s15.1 x16.toInt64).bind fun (x17 : Int64) => some (.inr (.inl x17)) else cT (D106 m s15.2) m (fun (x18 : Int32) => (D137 s15.1 x18.toInt64).bind fun (x21 : Int64) => cT (D107 m s15.2) m (fun (x22 : Int32) => (D137 x21 x22.toInt64).bind fun (x25 : Int64) => some (.inl (x25, s15.2 + (nI 1)))) (fun (j23 : Nat) (m24 : dM) => some (.inr (.inr j23)))) (fun (j19 : Nat) (m20 : dM) => some (.inr (.inr j19)))) (x14, nI 0)
set_option maxRecDepth 20000 in
theorem w_134 {X : Nat × (Nat → Int32)} {d : Nat} {m : dM} {p0 : Int64} {r : Int64 ⊕ Nat} (hD : D134 m p0 = some r) : ax_Ev X (d + 8) 134 [.ref 0, .long p0] (stt m) (oT (fun x => some (.long x)) r) (stt (bT m r)) := by
  unfold D134 at hD
  show ax_Wp X (d + 7 + 1) 134 (0, [some (.ref 0), some (.long p0), none, none, none, none], []) (stt m) _
  refine ax_Wp.go (f' := (2, [some (.ref 0), some (.long p0), none, none, none, none], [.ref 0, .long p0])) 2 rfl ?_
  refine bnd hD (fun x1 hx hD => ?_)
  refine ax_Wp.callE (f' := (5, [some (.ref 0), some (.long p0), none, none, none, none], [.long p0])) rfl rfl (w_90 (d := d + 6) hx) rfl ?_
  refine ax_Wp.go (f' := (6, [some (.ref 0), some (.long p0), none, none, none, none], [.long x1.toInt64, .long p0])) 1 rfl ?_
  refine bnd hD (fun x2 hx hD => ?_)
  refine ax_Wp.callE (f' := (9, [some (.ref 0), some (.long p0), none, none, none, none], [])) rfl rfl (w_137 (d := d + 6) hx) rfl ?_
  refine ax_Wp.go (f' := (12, [some (.ref 0), some (.long p0), none, some (.long x2), none, none], [.ref 0, .long x2])) 3 rfl ?_
  refine bnd hD (fun x3 hx hD => ?_)
  refine ax_Wp.callE (f' := (15, [some (.ref 0), some (.long p0), none, some (.long x2), none, none], [.long x2])) rfl rfl (w_101 (d := d + 6) hx) rfl ?_
  refine ax_Wp.go (f' := (16, [some (.ref 0), some (.long p0), none, some (.long x2), none, none], [.long x3.toInt64, .long x2])) 1 rfl ?_
  refine bnd hD (fun x4 hx hD => ?_)
  refine ax_Wp.callE (f' := (19, [some (.ref 0), some (.long p0), none, some (.long x2), none, none], [])) rfl rfl (w_137 (d := d + 6) hx) rfl ?_
  refine ax_Wp.go (f' := (22, [some (.ref 0), some (.long p0), none, some (.long x4), none, none], [.ref 0, .long x4])) 3 rfl ?_
  refine bnd hD (fun x5 hx hD => ?_)
  refine ax_Wp.callE (f' := (25, [some (.ref 0), some (.long p0), none, some (.long x4), none, none], [.long x4])) rfl rfl (w_108 (d := d + 6) hx) rfl ?_
  refine ax_Wp.go (f' := (26, [some (.ref 0), some (.long p0), none, some (.long x4), none, none], [.long x5.toInt64, .long x4])) 1 rfl ?_
  refine bnd hD (fun x6 hx hD => ?_)
  refine ax_Wp.callE (f' := (29, [some (.ref 0), some (.long p0), none, some (.long x4), none, none], [])) rfl rfl (w_137 (d := d + 6) hx) rfl ?_
  refine ax_Wp.go (f' := (32, [some (.ref 0), some (.long p0), none, some (.long x6), none, none], [.ref 0, .long x6])) 3 rfl ?_
  refine bnd hD (fun x7 hx hD => ?_)
  refine ax_Wp.callE (f' := (35, [some (.ref 0), some (.long p0), none, some (.long x6), none, none], [.long x6])) rfl rfl (w_109 (d := d + 6) hx) rfl ?_
  refine ax_Wp.go (f' := (36, [some (.ref 0), some (.long p0), none, some (.long x6), none, none], [.long x7.toInt64, .long x6])) 1 rfl ?_
  refine bnd hD (fun x8 hx hD => ?_)
  refine ax_Wp.callE (f' := (39, [some (.ref 0), some (.long p0), none, some (.long x6), none, none], [])) rfl rfl (w_137 (d := d + 6) hx) rfl ?_
  refine ax_Wp.go (f' := (42, [some (.ref 0), some (.long p0), none, some (.long x8), none, none], [.ref 0, .long x8])) 3 rfl ?_
  refine bnd hD (fun x9 hx hD => ?_)
  refine ax_Wp.callE (f' := (45, [some (.ref 0), some (.long p0), none, some (.long x8), none, none], [.long x8])) rfl rfl (w_110 (d := d + 5) hx) rfl ?_
  refine ax_Wp.go (f' := (46, [some (.ref 0), some (.long p0), none, some (.long x8), none, none], [.long x9.toInt64, .long x8])) 1 rfl ?_
  refine bnd hD (fun x10 hx hD => ?_)
  refine ax_Wp.callE (f' := (49, [some (.ref 0), some (.long p0), none, some (.long x8), none, none], [])) rfl rfl (w_137 (d := d + 6) hx) rfl ?_
  refine ax_Wp.go (f' := (52, [some (.ref 0), some (.long p0), none, some (.long x10), none, none], [.ref 0, .long x10])) 3 rfl ?_
  refine bnd hD (fun x11 hx hD => ?_)
  refine ax_Wp.callE (f' := (55, [some (.ref 0), some (.long p0), none, some (.long x10), none, none], [.long x10])) rfl rfl (w_111 (d := d + 4) hx) rfl ?_
  refine ax_Wp.go (f' := (56, [some (.ref 0), some (.long p0), none, some (.long x10), none, none], [.long x11.toInt64, .long x10])) 1 rfl ?_
  refine bnd hD (fun x12 hx hD => ?_)
  refine ax_Wp.callE (f' := (59, [some (.ref 0), some (.long p0), none, some (.long x10), none, none], [])) rfl rfl (w_137 (d := d + 6) hx) rfl ?_
  refine ax_Wp.go (f' := (62, [some (.ref 0), some (.long p0), none, some (.long x12), none, none], [.ref 0, .long x12])) 3 rfl ?_
  refine bnd hD (fun x13 hx hD => ?_)
  refine ax_Wp.callE (f' := (65, [some (.ref 0), some (.long p0), none, some (.long x12), none, none], [.long x12])) rfl rfl (w_112 (d := d + 4) hx) rfl ?_
  refine ax_Wp.go (f' := (66, [some (.ref 0), some (.long p0), none, some (.long x12), none, none], [.long x13.toInt64, .long x12])) 1 rfl ?_
  refine bnd hD (fun x14 hx hD => ?_)
  refine ax_Wp.callE (f' := (69, [some (.ref 0), some (.long p0), none, some (.long x12), none, none], [])) rfl rfl (w_137 (d := d + 6) hx) rfl ?_
  refine ax_Wp.go (f' := (73, [some (.ref 0), some (.long p0), none, some (.long x14), none, some (.int (nI 0))], [])) 3 rfl ?_
  refine ax_Wp.dead (L := [some (.ref 0), none, none, some (.long x14), none, some (.int (nI 0))]) ?_ ⟨.inl rfl, ⟨.inr ⟨rfl, trivial⟩, ⟨.inl rfl, ⟨.inl rfl, ⟨.inl rfl, ⟨.inl rfl, trivial⟩⟩⟩⟩⟩⟩
  refine ax_Wp.lpD (fun (s15 : Int64 × Int32) => ((73, [some (.ref 0), none, none, some (.long s15.1), none, some (.int s15.2)], []), stt m)) ?_ hD
  clear hD
  intro s15 v hD ks15
  refine ax_Wp.go (f' := (76, [some (.ref 0), none, none, some (.long s15.1), none, some (.int s15.2)], [.int (nI 2), .int s15.2])) 2 rfl ?_
  refine ax_Wp.brD hD rfl (fun _ hD => ?_) (fun _ hD => ?_)
  · refine ax_Wp.go (f' := (111, [some (.ref 0), none, none, some (.long s15.1), none, some (.int s15.2)], [.ref 0, .long s15.1])) 2 rfl ?_
    refine bnd hD (fun x16 hx hD => ?_)
    refine ax_Wp.callE (f' := (114, [some (.ref 0), none, none, some (.long s15.1), none, some (.int s15.2)], [.long s15.1])) rfl rfl (w_89 (d := d + 6) hx) rfl ?_
    refine ax_Wp.go (f' := (115, [some (.ref 0), none, none, some (.long s15.1), none, some (.int s15.2)], [.long x16.toInt64, .long s15.1])) 1 rfl ?_
    refine bnd hD (fun x17 hx hD => ?_)
    refine ax_Wp.callE (f' := (118, [some (.ref 0), none, none, some (.long s15.1), none, some (.int s15.2)], [])) rfl rfl (w_137 (d := d + 6) hx) rfl ?_
    obtain rfl := inj hD
    obtain rfl := ks15.o
    exact ax_Wp.ret rfl ⟨rfl, rfl⟩
  · refine ax_Wp.go (f' := (83, [some (.ref 0), none, none, some (.long s15.1), none, some (.int s15.2)], [.int s15.2, .ref 0, .long s15.1])) 3 rfl ?_
    refine cT.sp hD (fun x18 hx hD => ?_) (fun j19 hx hD => ?_)
    · refine ax_Wp.callE (f' := (86, [some (.ref 0), none, none, some (.long s15.1), none, some (.int s15.2)], [.long s15.1])) rfl rfl (w_106 (d := d + 0) hx) rfl ?_
      refine ax_Wp.go (f' := (87, [some (.ref 0), none, none, some (.long s15.1), none, some (.int s15.2)], [.long x18.toInt64, .long s15.1])) 1 rfl ?_
      refine bnd hD (fun x21 hx hD => ?_)
      refine ax_Wp.callE (f' := (90, [some (.ref 0), none, none, some (.long s15.1), none, some (.int s15.2)], [])) rfl rfl (w_137 (d := d + 6) hx) rfl ?_
      refine ax_Wp.go (f' := (95, [some (.ref 0), none, none, some (.long x21), none, some (.int s15.2)], [.int s15.2, .ref 0, .long x21])) 4 rfl ?_
      refine cT.sp hD (fun x22 hx hD => ?_) (fun j23 hx hD => ?_)
      · refine ax_Wp.callE (f' := (98, [some (.ref 0), none, none, some (.long x21), none, some (.int s15.2)], [.long x21])) rfl rfl (w_107 (d := d + 0) hx) rfl ?_
        refine ax_Wp.go (f' := (99, [some (.ref 0), none, none, some (.long x21), none, some (.int s15.2)], [.long x22.toInt64, .long x21])) 1 rfl ?_
        refine bnd hD (fun x25 hx hD => ?_)
        refine ax_Wp.callE (f' := (102, [some (.ref 0), none, none, some (.long x21), none, some (.int s15.2)], [])) rfl rfl (w_137 (d := d + 6) hx) rfl ?_
        refine ax_Wp.go (f' := (73, [some (.ref 0), none, none, some (.long x25), none, some (.int (s15.2 + (nI 1)))], [])) 3 rfl ?_
        obtain rfl := inj hD
        exact ks15.i
      · obtain rfl := inj hD
        obtain rfl := ks15.o
        exact ax_Wp.callX (f' := (98, [some (.ref 0), none, none, some (.long x21), none, some (.int s15.2)], [.long x21])) rfl rfl (w_107 (d := d + 0) hx) rfl ⟨rfl, rfl⟩
    · obtain rfl := inj hD
      obtain rfl := ks15.o
      exact ax_Wp.callX (f' := (86, [some (.ref 0), none, none, some (.long s15.1), none, some (.int s15.2)], [.long s15.1])) rfl rfl (w_106 (d := d + 0) hx) rfl ⟨rfl, rfl⟩
def D138 (p0 : Int64) (p1 : Int32) : Option (Int64) := Option.bind ((if p1 = (nI 0) then some (0 : Int64) else some (1 : Int64)) : Option (Int64)) fun (v1 : Int64) => (D137 p0 v1).bind fun (x2 : Int64) => some x2
set_option maxRecDepth 20000 in
theorem w_138 {X : Nat × (Nat → Int32)} {d : Nat} {m : dM} {p0 : Int64} {p1 : Int32} {r : Int64} (hD : D138 p0 p1 = some r) : ax_Ev X (d + 2) 138 [.long p0, .int p1] (stt m) (.inl (some (.long r))) (stt m) := by
  unfold D138 at hD
  show ax_Wp X (d + 1 + 1) 138 (0, [some (.long p0), none, some (.int p1)], []) (stt m) _
  refine ax_Wp.go (f' := (2, [some (.long p0), none, some (.int p1)], [.int p1, .long p0])) 2 rfl ?_
  refine bnd hD (fun v1 hx hD => ?_)
  refine ax_Wp.jn (F := (10, [none, none, none], [.long v1, .long p0])) (hh := stt m) ?_ (fun kkv1 => ?_)
  · refine bnd hD (fun x2 hx hD => ?_)
    refine ax_Wp.callE (f' := (13, [none, none, none], [])) rfl rfl (w_137 (d := d + 0) hx) rfl ?_
    obtain rfl := inj hD
    exact ax_Wp.ret rfl ⟨rfl, rfl⟩
  clear hD
  have hD := hx
  clear hx
  refine ax_Wp.brD hD rfl (fun _ hD => ?_) (fun _ hD => ?_)
  · refine ax_Wp.go (f' := (10, [some (.long p0), none, some (.int p1)], [.long (0 : Int64), .long p0])) 1 rfl ?_
    obtain rfl := inj hD
    exact ax_Wp.dead kkv1 ⟨.inr ⟨rfl, trivial⟩, ⟨.inl rfl, ⟨.inr ⟨rfl, trivial⟩, trivial⟩⟩⟩
  · refine ax_Wp.go (f' := (10, [some (.long p0), none, some (.int p1)], [.long (1 : Int64), .long p0])) 2 rfl ?_
    obtain rfl := inj hD
    exact ax_Wp.dead kkv1 ⟨.inr ⟨rfl, trivial⟩, ⟨.inl rfl, ⟨.inr ⟨rfl, trivial⟩, trivial⟩⟩⟩
