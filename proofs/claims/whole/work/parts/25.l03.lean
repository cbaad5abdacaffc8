/-! THE LAW'S CASES: 3 -/
def C28 (X : Nat × (Nat → Int32)) (m : dM) (i : Int32) : Option (dM ⊕ dM) := (gX X (i + (nI 1))).bind fun (x1 : Int32) => (D267 m x1).bind fun (r2 : Int32 × dM) => (gX X (i + (nI 1))).bind fun (x3 : Int32) => (D211 r2.2 x3).bind fun (r4 : Int32 × dM) => (D142 r4.2).bind fun (x5 : Int32) => if x5 = r2.1 then if r2.1 = (nI 0) then (gL r4.2 138 1 (nI 0)).bind fun (x6 : Int64) => if (lg_cmp x6 r4.1.toInt64) = (nI 0) then some (.inl r4.2) else some (.inr r4.2) else some (.inl r4.2) else some (.inr r4.2)
set_option maxRecDepth 20000 in
theorem c_28 {X : Nat × (Nat → Int32)} {d : Nat} {Q : ax_O → ax_H → Prop} {m : dM} {i : Int32} {v : dM ⊕ dM} (hD : C28 X m i = some v) (kk : lwK X d Q i v) : ax_Wp X (d + 11 + 1) 283 (1656, [some (.retAddr 0), some (.ref 0), some (.ref 130), some (.ref 138), some (.int i), none, none, none, none], []) (stt m) Q := by
  unfold C28 at hD
  refine ax_Wp.go (f' := (1662, [some (.retAddr 0), some (.ref 0), some (.ref 130), some (.ref 138), some (.int i), none, none, none, none], [.int (i + (nI 1)), .retAddr 0, .ref 0])) 5 rfl ?_
  refine ax_Wp.rdX hD rfl (fun x1 hD => ?_)
  refine ax_Wp.go (f' := (1664, [some (.retAddr 0), some (.ref 0), some (.ref 130), some (.ref 138), some (.int i), none, none, none, none], [.ref 138, .int x1, .ref 0])) 1 rfl ?_
  refine bnd hD (fun r2 hx hD => ?_)
  refine ax_Wp.callE (f' := (1667, [some (.retAddr 0), some (.ref 0), some (.ref 130), some (.ref 138), some (.int i), none, none, none, none], [])) rfl rfl (w_267 (d := d + 3) hx) rfl ?_
  refine ax_Wp.go (f' := (1675, [some (.retAddr 0), some (.ref 0), some (.ref 130), some (.ref 138), some (.int i), some (.int r2.1), none, none, none], [.int (i + (nI 1)), .retAddr 0, .ref 130])) 6 rfl ?_
  refine ax_Wp.rdX hD rfl (fun x3 hD => ?_)
  refine bnd hD (fun r4 hx hD => ?_)
  refine ax_Wp.callE (f' := (1679, [some (.retAddr 0), some (.ref 0), some (.ref 130), some (.ref 138), some (.int i), some (.int r2.1), none, none, none], [])) rfl rfl (w_211 (d := d + 7) hx) rfl ?_
  refine ax_Wp.go (f' := (1682, [some (.retAddr 0), some (.ref 0), some (.ref 130), some (.ref 138), some (.int i), some (.int r2.1), some (.int r4.1), none, none], [.ref 130])) 2 rfl ?_
  refine bnd hD (fun x5 hx hD => ?_)
  refine ax_Wp.callE (f' := (1685, [some (.retAddr 0), some (.ref 0), some (.ref 130), some (.ref 138), some (.int i), some (.int r2.1), some (.int r4.1), none, none], [])) rfl rfl (w_142 (d := d + 10) hx) rfl ?_
  refine ax_Wp.go (f' := (1687, [some (.retAddr 0), some (.ref 0), some (.ref 130), some (.ref 138), some (.int i), some (.int r2.1), some (.int r4.1), none, none], [.int r2.1, .int x5])) 1 rfl ?_
  refine ax_Wp.brD hD rfl (fun _ hD => ?_) (fun _ hD => ?_)
  · refine ax_Wp.go (f' := (1694, [some (.retAddr 0), some (.ref 0), some (.ref 130), some (.ref 138), some (.int i), some (.int r2.1), some (.int r4.1), none, none], [.int r2.1])) 1 rfl ?_
    refine ax_Wp.brD hD rfl (fun _ hD => ?_) (fun _ hD => ?_)
    · refine ax_Wp.go (f' := (1699, [some (.retAddr 0), some (.ref 0), some (.ref 130), some (.ref 138), some (.int i), some (.int r2.1), some (.int r4.1), none, none], [.int (nI 0), .ref 138])) 2 rfl ?_
      refine ax_Wp.rdL hD rfl rfl rfl (fun x6 hD => ?_)
      refine ax_Wp.go (f' := (1704, [some (.retAddr 0), some (.ref 0), some (.ref 130), some (.ref 138), some (.int i), some (.int r2.1), some (.int r4.1), none, none], [.int (lg_cmp x6 r4.1.toInt64)])) 3 rfl ?_
      refine ax_Wp.brD hD rfl (fun _ hD => ?_) (fun _ hD => ?_)
      · refine ax_Wp.go (f' := (2778, [some (.retAddr 0), some (.ref 0), some (.ref 130), some (.ref 138), some (.int i), some (.int r2.1), some (.int r4.1), none, none], [])) 1 rfl ?_
        obtain rfl := inj hD
        exact ax_Wp.dead kk ⟨.inl rfl, ⟨.inl rfl, ⟨.inl rfl, ⟨.inl rfl, ⟨.inl rfl, ⟨.inr ⟨rfl, trivial⟩, ⟨.inr ⟨rfl, trivial⟩, ⟨.inl rfl, ⟨.inl rfl, trivial⟩⟩⟩⟩⟩⟩⟩⟩⟩
      · refine ax_Wp.go (f' := (1708, [some (.retAddr 0), some (.ref 0), some (.ref 130), some (.ref 138), some (.int i), some (.int r2.1), some (.int r4.1), none, none], [.int (nI 0)])) 1 rfl ?_
        obtain rfl := inj hD
        exact ax_Wp.ret rfl kk
    · refine ax_Wp.go (f' := (2778, [some (.retAddr 0), some (.ref 0), some (.ref 130), some (.ref 138), some (.int i), some (.int r2.1), some (.int r4.1), none, none], [])) 1 rfl ?_
      obtain rfl := inj hD
      exact ax_Wp.dead kk ⟨.inl rfl, ⟨.inl rfl, ⟨.inl rfl, ⟨.inl rfl, ⟨.inl rfl, ⟨.inr ⟨rfl, trivial⟩, ⟨.inr ⟨rfl, trivial⟩, ⟨.inl rfl, ⟨.inl rfl, trivial⟩⟩⟩⟩⟩⟩⟩⟩⟩
  · refine ax_Wp.go (f' := (1691, [some (.retAddr 0), some (.ref 0), some (.ref 130), some (.ref 138), some (.int i), some (.int r2.1), some (.int r4.1), none, none], [.int (nI 0)])) 1 rfl ?_
    obtain rfl := inj hD
    exact ax_Wp.ret rfl kk
def C29 (X : Nat × (Nat → Int32)) (m : dM) (i : Int32) : Option (dM ⊕ dM) := (gX X (i + (nI 1))).bind fun (x1 : Int32) => (D268 m x1).bind fun (r2 : Int32 × dM) => (gX X (i + (nI 1))).bind fun (x3 : Int32) => (D212 r2.2 x3).bind fun (r4 : Int32 × dM) => (D142 r4.2).bind fun (x5 : Int32) => if x5 = r2.1 then if r2.1 = (nI 0) then (gL r4.2 138 1 (nI 0)).bind fun (x6 : Int64) => if (lg_cmp x6 r4.1.toInt64) = (nI 0) then some (.inl r4.2) else some (.inr r4.2) else some (.inl r4.2) else some (.inr r4.2)
set_option maxRecDepth 20000 in
theorem c_29 {X : Nat × (Nat → Int32)} {d : Nat} {Q : ax_O → ax_H → Prop} {m : dM} {i : Int32} {v : dM ⊕ dM} (hD : C29 X m i = some v) (kk : lwK X d Q i v) : ax_Wp X (d + 11 + 1) 283 (1712, [some (.retAddr 0), some (.ref 0), some (.ref 130), some (.ref 138), some (.int i), none, none, none, none], []) (stt m) Q := by
  unfold C29 at hD
  refine ax_Wp.go (f' := (1718, [some (.retAddr 0), some (.ref 0), some (.ref 130), some (.ref 138), some (.int i), none, none, none, none], [.int (i + (nI 1)), .retAddr 0, .ref 0])) 5 rfl ?_
  refine ax_Wp.rdX hD rfl (fun x1 hD => ?_)
  refine ax_Wp.go (f' := (1720, [some (.retAddr 0), some (.ref 0), some (.ref 130), some (.ref 138), some (.int i), none, none, none, none], [.ref 138, .int x1, .ref 0])) 1 rfl ?_
  refine bnd hD (fun r2 hx hD => ?_)
  refine ax_Wp.callE (f' := (1723, [some (.retAddr 0), some (.ref 0), some (.ref 130), some (.ref 138), some (.int i), none, none, none, none], [])) rfl rfl (w_268 (d := d + 3) hx) rfl ?_
  refine ax_Wp.go (f' := (1731, [some (.retAddr 0), some (.ref 0), some (.ref 130), some (.ref 138), some (.int i), some (.int r2.1), none, none, none], [.int (i + (nI 1)), .retAddr 0, .ref 130])) 6 rfl ?_
  refine ax_Wp.rdX hD rfl (fun x3 hD => ?_)
  refine bnd hD (fun r4 hx hD => ?_)
  refine ax_Wp.callE (f' := (1735, [some (.retAddr 0), some (.ref 0), some (.ref 130), some (.ref 138), some (.int i), some (.int r2.1), none, none, none], [])) rfl rfl (w_212 (d := d + 7) hx) rfl ?_
  refine ax_Wp.go (f' := (1738, [some (.retAddr 0), some (.ref 0), some (.ref 130), some (.ref 138), some (.int i), some (.int r2.1), some (.int r4.1), none, none], [.ref 130])) 2 rfl ?_
  refine bnd hD (fun x5 hx hD => ?_)
  refine ax_Wp.callE (f' := (1741, [some (.retAddr 0), some (.ref 0), some (.ref 130), some (.ref 138), some (.int i), some (.int r2.1), some (.int r4.1), none, none], [])) rfl rfl (w_142 (d := d + 10) hx) rfl ?_
  refine ax_Wp.go (f' := (1743, [some (.retAddr 0), some (.ref 0), some (.ref 130), some (.ref 138), some (.int i), some (.int r2.1), some (.int r4.1), none, none], [.int r2.1, .int x5])) 1 rfl ?_
  refine ax_Wp.brD hD rfl (fun _ hD => ?_) (fun _ hD => ?_)
  · refine ax_Wp.go (f' := (1750, [some (.retAddr 0), some (.ref 0), some (.ref 130), some (.ref 138), some (.int i), some (.int r2.1), some (.int r4.1), none, none], [.int r2.1])) 1 rfl ?_
    refine ax_Wp.brD hD rfl (fun _ hD => ?_) (fun _ hD => ?_)
    · refine ax_Wp.go (f' := (1755, [some (.retAddr 0), some (.ref 0), some (.ref 130), some (.ref 138), some (.int i), some (.int r2.1), some (.int r4.1), none, none], [.int (nI 0), .ref 138])) 2 rfl ?_
      refine ax_Wp.rdL hD rfl rfl rfl (fun x6 hD => ?_)
      refine ax_Wp.go (f' := (1760, [some (.retAddr 0), some (.ref 0), some (.ref 130), some (.ref 138), some (.int i), some (.int r2.1), some (.int r4.1), none, none], [.int (lg_cmp x6 r4.1.toInt64)])) 3 rfl ?_
      refine ax_Wp.brD hD rfl (fun _ hD => ?_) (fun _ hD => ?_)
      · refine ax_Wp.go (f' := (2778, [some (.retAddr 0), some (.ref 0), some (.ref 130), some (.ref 138), some (.int i), some (.int r2.1), some (.int r4.1), none, none], [])) 1 rfl ?_
        obtain rfl := inj hD
        exact ax_Wp.dead kk ⟨.inl rfl, ⟨.inl rfl, ⟨.inl rfl, ⟨.inl rfl, ⟨.inl rfl, ⟨.inr ⟨rfl, trivial⟩, ⟨.inr ⟨rfl, trivial⟩, ⟨.inl rfl, ⟨.inl rfl, trivial⟩⟩⟩⟩⟩⟩⟩⟩⟩
      · refine ax_Wp.go (f' := (1764, [some (.retAddr 0), some (.ref 0), some (.ref 130), some (.ref 138), some (.int i), some (.int r2.1), some (.int r4.1), none, none], [.int (nI 0)])) 1 rfl ?_
        obtain rfl := inj hD
        exact ax_Wp.ret rfl kk
    · refine ax_Wp.go (f' := (2778, [some (.retAddr 0), some (.ref 0), some (.ref 130), some (.ref 138), some (.int i), some (.int r2.1), some (.int r4.1), none, none], [])) 1 rfl ?_
      obtain rfl := inj hD
      exact ax_Wp.dead kk ⟨.inl rfl, ⟨.inl rfl, ⟨.inl rfl, ⟨.inl rfl, ⟨.inl rfl, ⟨.inr ⟨rfl, trivial⟩, ⟨.inr ⟨rfl, trivial⟩, ⟨.inl rfl, ⟨.inl rfl, trivial⟩⟩⟩⟩⟩⟩⟩⟩⟩
  · refine ax_Wp.go (f' := (1747, [some (.retAddr 0), some (.ref 0), some (.ref 130), some (.ref 138), some (.int i), some (.int r2.1), some (.int r4.1), none, none], [.int (nI 0)])) 1 rfl ?_
    obtain rfl := inj hD
    exact ax_Wp.ret rfl kk
def C30 (X : Nat × (Nat → Int32)) (m : dM) (i : Int32) : Option (dM ⊕ dM) := (gX X (i + (nI 1))).bind fun (x1 : Int32) => (D269 m x1).bind fun (r2 : Int32 × dM) => (gX X (i + (nI 1))).bind fun (x3 : Int32) => (D213 r2.2 x3).bind fun (r4 : Int32 × dM) => (D142 r4.2).bind fun (x5 : Int32) => if x5 = r2.1 then if r2.1 = (nI 0) then (gL r4.2 138 1 (nI 0)).bind fun (x6 : Int64) => if (lg_cmp x6 r4.1.toInt64) = (nI 0) then some (.inl r4.2) else some (.inr r4.2) else some (.inl r4.2) else some (.inr r4.2)
set_option maxRecDepth 20000 in
theorem c_30 {X : Nat × (Nat → Int32)} {d : Nat} {Q : ax_O → ax_H → Prop} {m : dM} {i : Int32} {v : dM ⊕ dM} (hD : C30 X m i = some v) (kk : lwK X d Q i v) : ax_Wp X (d + 11 + 1) 283 (1768, [some (.retAddr 0), some (.ref 0), some (.ref 130), some (.ref 138), some (.int i), none, none, none, none], []) (stt m) Q := by
  unfold C30 at hD
  refine ax_Wp.go (f' := (1774, [some (.retAddr 0), some (.ref 0), some (.ref 130), some (.ref 138), some (.int i), none, none, none, none], [.int (i + (nI 1)), .retAddr 0, .ref 0])) 5 rfl ?_
  refine ax_Wp.rdX hD rfl (fun x1 hD => ?_)
  refine ax_Wp.go (f' := (1776, [some (.retAddr 0), some (.ref 0), some (.ref 130), some (.ref 138), some (.int i), none, none, none, none], [.ref 138, .int x1, .ref 0])) 1 rfl ?_
  refine bnd hD (fun r2 hx hD => ?_)
  refine ax_Wp.callE (f' := (1779, [some (.retAddr 0), some (.ref 0), some (.ref 130), some (.ref 138), some (.int i), none, none, none, none], [])) rfl rfl (w_269 (d := d + 3) hx) rfl ?_
  refine ax_Wp.go (f' := (1787, [some (.retAddr 0), some (.ref 0), some (.ref 130), some (.ref 138), some (.int i), some (.int r2.1), none, none, none], [.int (i + (nI 1)), .retAddr 0, .ref 130])) 6 rfl ?_
  refine ax_Wp.rdX hD rfl (fun x3 hD => ?_)
  refine bnd hD (fun r4 hx hD => ?_)
  refine ax_Wp.callE (f' := (1791, [some (.retAddr 0), some (.ref 0), some (.ref 130), some (.ref 138), some (.int i), some (.int r2.1), none, none, none], [])) rfl rfl (w_213 (d := d + 7) hx) rfl ?_
  refine ax_Wp.go (f' := (1794, [some (.retAddr 0), some (.ref 0), some (.ref 130), some (.ref 138), some (.int i), some (.int r2.1), some (.int r4.1), none, none], [.ref 130])) 2 rfl ?_
  refine bnd hD (fun x5 hx hD => ?_)
  refine ax_Wp.callE (f' := (1797, [some (.retAddr 0), some (.ref 0), some (.ref 130), some (.ref 138), some (.int i), some (.int r2.1), some (.int r4.1), none, none], [])) rfl rfl (w_142 (d := d + 10) hx) rfl ?_
  refine ax_Wp.go (f' := (1799, [some (.retAddr 0), some (.ref 0), some (.ref 130), some (.ref 138), some (.int i), some (.int r2.1), some (.int r4.1), none, none], [.int r2.1, .int x5])) 1 rfl ?_
  refine ax_Wp.brD hD rfl (fun _ hD => ?_) (fun _ hD => ?_)
  · refine ax_Wp.go (f' := (1806, [some (.retAddr 0), some (.ref 0), some (.ref 130), some (.ref 138), some (.int i), some (.int r2.1), some (.int r4.1), none, none], [.int r2.1])) 1 rfl ?_
    refine ax_Wp.brD hD rfl (fun _ hD => ?_) (fun _ hD => ?_)
    · refine ax_Wp.go (f' := (1811, [some (.retAddr 0), some (.ref 0), some (.ref 130), some (.ref 138), some (.int i), some (.int r2.1), some (.int r4.1), none, none], [.int (nI 0), .ref 138])) 2 rfl ?_
      refine ax_Wp.rdL hD rfl rfl rfl (fun x6 hD => ?_)
      refine ax_Wp.go (f' := (1816, [some (.retAddr 0), some (.ref 0), some (.ref 130), some (.ref 138), some (.int i), some (.int r2.1), some (.int r4.1), none, none], [.int (lg_cmp x6 r4.1.toInt64)])) 3 rfl ?_
      refine ax_Wp.brD hD rfl (fun _ hD => ?_) (fun _ hD => ?_)
      · refine ax_Wp.go (f' := (2778, [some (.retAddr 0), some (.ref 0), some (.ref 130), some (.ref 138), some (.int i), some (.int r2.1), some (.int r4.1), none, none], [])) 1 rfl ?_
        obtain rfl := inj hD
        exact ax_Wp.dead kk ⟨.inl rfl, ⟨.inl rfl, ⟨.inl rfl, ⟨.inl rfl, ⟨.inl rfl, ⟨.inr ⟨rfl, trivial⟩, ⟨.inr ⟨rfl, trivial⟩, ⟨.inl rfl, ⟨.inl rfl, trivial⟩⟩⟩⟩⟩⟩⟩⟩⟩
      · refine ax_Wp.go (f' := (1820, [some (.retAddr 0), some (.ref 0), some (.ref 130), some (.ref 138), some (.int i), some (.int r2.1), some (.int r4.1), none, none], [.int (nI 0)])) 1 rfl ?_
        obtain rfl := inj hD
        exact ax_Wp.ret rfl kk
    · refine ax_Wp.go (f' := (2778, [some (.retAddr 0), some (.ref 0), some (.ref 130), some (.ref 138), some (.int i), some (.int r2.1), some (.int r4.1), none, none], [])) 1 rfl ?_
      obtain rfl := inj hD
      exact ax_Wp.dead kk ⟨.inl rfl, ⟨.inl rfl, ⟨.inl rfl, ⟨.inl rfl, ⟨.inl rfl, ⟨.inr ⟨rfl, trivial⟩, ⟨.inr ⟨rfl, trivial⟩, ⟨.inl rfl, ⟨.inl rfl, trivial⟩⟩⟩⟩⟩⟩⟩⟩⟩
  · refine ax_Wp.go (f' := (1803, [some (.retAddr 0), some (.ref 0), some (.ref 130), some (.ref 138), some (.int i), some (.int r2.1), some (.int r4.1), none, none], [.int (nI 0)])) 1 rfl ?_
    obtain rfl := inj hD
    exact ax_Wp.ret rfl kk
def C31 (X : Nat × (Nat → Int32)) (m : dM) (i : Int32) : Option (dM ⊕ dM) := (D101 m).bind fun (x1 : Int32) => (D214 m).bind fun (r2 : Int32 × dM) => if x1 = r2.1 then some (.inl r2.2) else some (.inr r2.2)
set_option maxRecDepth 20000 in
theorem c_31 {X : Nat × (Nat → Int32)} {d : Nat} {Q : ax_O → ax_H → Prop} {m : dM} {i : Int32} {v : dM ⊕ dM} (hD : C31 X m i = some v) (kk : lwK X d Q i v) : ax_Wp X (d + 11 + 1) 283 (1824, [some (.retAddr 0), some (.ref 0), some (.ref 130), some (.ref 138), some (.int i), none, none, none, none], []) (stt m) Q := by
  unfold C31 at hD
  refine ax_Wp.go (f' := (1825, [some (.retAddr 0), some (.ref 0), some (.ref 130), some (.ref 138), some (.int i), none, none, none, none], [.ref 0])) 1 rfl ?_
  refine bnd hD (fun x1 hx hD => ?_)
  refine ax_Wp.callE (f' := (1828, [some (.retAddr 0), some (.ref 0), some (.ref 130), some (.ref 138), some (.int i), none, none, none, none], [])) rfl rfl (w_101 (d := d + 10) hx) rfl ?_
  refine ax_Wp.go (f' := (1829, [some (.retAddr 0), some (.ref 0), some (.ref 130), some (.ref 138), some (.int i), none, none, none, none], [.ref 130, .int x1])) 1 rfl ?_
  refine bnd hD (fun r2 hx hD => ?_)
  refine ax_Wp.callE (f' := (1832, [some (.retAddr 0), some (.ref 0), some (.ref 130), some (.ref 138), some (.int i), none, none, none, none], [.int x1])) rfl rfl (w_214 (d := d + 10) hx) rfl ?_
  refine ax_Wp.brD hD rfl (fun _ hD => ?_) (fun _ hD => ?_)
  · obtain rfl := inj hD
    exact kk
  · refine ax_Wp.go (f' := (1836, [some (.retAddr 0), some (.ref 0), some (.ref 130), some (.ref 138), some (.int i), none, none, none, none], [.int (nI 0)])) 1 rfl ?_
    obtain rfl := inj hD
    exact ax_Wp.ret rfl kk
def C32 (X : Nat × (Nat → Int32)) (m : dM) (i : Int32) : Option (dM ⊕ dM) := (gX X (i + (nI 1))).bind fun (x1 : Int32) => (D270 m x1).bind fun (r2 : Int32 × dM) => (gX X (i + (nI 1))).bind fun (x3 : Int32) => (D215 r2.2 x3).bind fun (r4 : Int32 × dM) => (D142 r4.2).bind fun (x5 : Int32) => if x5 = r2.1 then if r2.1 = (nI 0) then (gL r4.2 138 1 (nI 0)).bind fun (x6 : Int64) => Option.bind ((if r4.1 = (nI 0) then some (0 : Int64) else some (1 : Int64)) : Option (Int64)) fun (v7 : Int64) => if (lg_cmp x6 v7) = (nI 0) then some (.inl r4.2) else some (.inr r4.2) else some (.inl r4.2) else some (.inr r4.2)
set_option maxRecDepth 20000 in
theorem c_32 {X : Nat × (Nat → Int32)} {d : Nat} {Q : ax_O → ax_H → Prop} {m : dM} {i : Int32} {v : dM ⊕ dM} (hD : C32 X m i = some v) (kk : lwK X d Q i v) : ax_Wp X (d + 11 + 1) 283 (1837, [some (.retAddr 0), some (.ref 0), some (.ref 130), some (.ref 138), some (.int i), none, none, none, none], []) (stt m) Q := by
  unfold C32 at hD
  refine ax_Wp.go (f' := (1843, [some (.retAddr 0), some (.ref 0), some (.ref 130), some (.ref 138), some (.int i), none, none, none, none], [.int (i + (nI 1)), .retAddr 0, .ref 0])) 5 rfl ?_
  refine ax_Wp.rdX hD rfl (fun x1 hD => ?_)
  refine ax_Wp.go (f' := (1845, [some (.retAddr 0), some (.ref 0), some (.ref 130), some (.ref 138), some (.int i), none, none, none, none], [.ref 138, .int x1, .ref 0])) 1 rfl ?_
  refine bnd hD (fun r2 hx hD => ?_)
  refine ax_Wp.callE (f' := (1848, [some (.retAddr 0), some (.ref 0), some (.ref 130), some (.ref 138), some (.int i), none, none, none, none], [])) rfl rfl (w_270 (d := d + 3) hx) rfl ?_
  refine ax_Wp.go (f' := (1856, [some (.retAddr 0), some (.ref 0), some (.ref 130), some (.ref 138), some (.int i), some (.int r2.1), none, none, none], [.int (i + (nI 1)), .retAddr 0, .ref 130])) 6 rfl ?_
  refine ax_Wp.rdX hD rfl (fun x3 hD => ?_)
  refine bnd hD (fun r4 hx hD => ?_)
  refine ax_Wp.callE (f' := (1860, [some (.retAddr 0), some (.ref 0), some (.ref 130), some (.ref 138), some (.int i), some (.int r2.1), none, none, none], [])) rfl rfl (w_215 (d := d + 8) hx) rfl ?_
  refine ax_Wp.go (f' := (1863, [some (.retAddr 0), some (.ref 0), some (.ref 130), some (.ref 138), some (.int i), some (.int r2.1), some (.int r4.1), none, none], [.ref 130])) 2 rfl ?_
  refine bnd hD (fun x5 hx hD => ?_)
  refine ax_Wp.callE (f' := (1866, [some (.retAddr 0), some (.ref 0), some (.ref 130), some (.ref 138), some (.int i), some (.int r2.1), some (.int r4.1), none, none], [])) rfl rfl (w_142 (d := d + 10) hx) rfl ?_
  refine ax_Wp.go (f' := (1868, [some (.retAddr 0), some (.ref 0), some (.ref 130), some (.ref 138), some (.int i), some (.int r2.1), some (.int r4.1), none, none], [.int r2.1, .int x5])) 1 rfl ?_
  refine ax_Wp.brD hD rfl (fun _ hD => ?_) (fun _ hD => ?_)
  · refine ax_Wp.go (f' := (1875, [some (.retAddr 0), some (.ref 0), some (.ref 130), some (.ref 138), some (.int i), some (.int r2.1), some (.int r4.1), none, none], [.int r2.1])) 1 rfl ?_
    refine ax_Wp.brD hD rfl (fun _ hD => ?_) (fun _ hD => ?_)
    · refine ax_Wp.go (f' := (1880, [some (.retAddr 0), some (.ref 0), some (.ref 130), some (.ref 138), some (.int i), some (.int r2.1), some (.int r4.1), none, none], [.int (nI 0), .ref 138])) 2 rfl ?_
      refine ax_Wp.rdL hD rfl rfl rfl (fun x6 hD => ?_)
      refine ax_Wp.go (f' := (1883, [some (.retAddr 0), some (.ref 0), some (.ref 130), some (.ref 138), some (.int i), some (.int r2.1), some (.int r4.1), none, none], [.int r4.1, .long x6])) 1 rfl ?_
      refine bnd hD (fun v7 hx hD => ?_)
      refine ax_Wp.jn (F := (1891, [some (.retAddr 0), some (.ref 0), some (.ref 130), some (.ref 138), some (.int i), none, none, none, none], [.long v7, .long x6])) (hh := stt r4.2) ?_ (fun kkv7 => ?_)
      · refine ax_Wp.go (f' := (1892, [some (.retAddr 0), some (.ref 0), some (.ref 130), some (.ref 138), some (.int i), none, none, none, none], [.int (lg_cmp x6 v7)])) 1 rfl ?_
        refine ax_Wp.brD hD rfl (fun _ hD => ?_) (fun _ hD => ?_)
        · refine ax_Wp.go (f' := (2778, [some (.retAddr 0), some (.ref 0), some (.ref 130), some (.ref 138), some (.int i), none, none, none, none], [])) 1 rfl ?_
          obtain rfl := inj hD
          exact kk
        · refine ax_Wp.go (f' := (1896, [some (.retAddr 0), some (.ref 0), some (.ref 130), some (.ref 138), some (.int i), none, none, none, none], [.int (nI 0)])) 1 rfl ?_
          obtain rfl := inj hD
          exact ax_Wp.ret rfl kk
      clear hD
      have hD := hx
      clear hx
      refine ax_Wp.brD hD rfl (fun _ hD => ?_) (fun _ hD => ?_)
      · refine ax_Wp.go (f' := (1891, [some (.retAddr 0), some (.ref 0), some (.ref 130), some (.ref 138), some (.int i), some (.int r2.1), some (.int r4.1), none, none], [.long (0 : Int64), .long x6])) 1 rfl ?_
        obtain rfl := inj hD
        exact ax_Wp.dead kkv7 ⟨.inl rfl, ⟨.inl rfl, ⟨.inl rfl, ⟨.inl rfl, ⟨.inl rfl, ⟨.inr ⟨rfl, trivial⟩, ⟨.inr ⟨rfl, trivial⟩, ⟨.inl rfl, ⟨.inl rfl, trivial⟩⟩⟩⟩⟩⟩⟩⟩⟩
      · refine ax_Wp.go (f' := (1891, [some (.retAddr 0), some (.ref 0), some (.ref 130), some (.ref 138), some (.int i), some (.int r2.1), some (.int r4.1), none, none], [.long (1 : Int64), .long x6])) 2 rfl ?_
        obtain rfl := inj hD
        exact ax_Wp.dead kkv7 ⟨.inl rfl, ⟨.inl rfl, ⟨.inl rfl, ⟨.inl rfl, ⟨.inl rfl, ⟨.inr ⟨rfl, trivial⟩, ⟨.inr ⟨rfl, trivial⟩, ⟨.inl rfl, ⟨.inl rfl, trivial⟩⟩⟩⟩⟩⟩⟩⟩⟩
    · refine ax_Wp.go (f' := (2778, [some (.retAddr 0), some (.ref 0), some (.ref 130), some (.ref 138), some (.int i), some (.int r2.1), some (.int r4.1), none, none], [])) 1 rfl ?_
      obtain rfl := inj hD
      exact ax_Wp.dead kk ⟨.inl rfl, ⟨.inl rfl, ⟨.inl rfl, ⟨.inl rfl, ⟨.inl rfl, ⟨.inr ⟨rfl, trivial⟩, ⟨.inr ⟨rfl, trivial⟩, ⟨.inl rfl, ⟨.inl rfl, trivial⟩⟩⟩⟩⟩⟩⟩⟩⟩
  · refine ax_Wp.go (f' := (1872, [some (.retAddr 0), some (.ref 0), some (.ref 130), some (.ref 138), some (.int i), some (.int r2.1), some (.int r4.1), none, none], [.int (nI 0)])) 1 rfl ?_
    obtain rfl := inj hD
    exact ax_Wp.ret rfl kk
def C33 (X : Nat × (Nat → Int32)) (m : dM) (i : Int32) : Option (dM ⊕ dM) := (gX X (i + (nI 1))).bind fun (x1 : Int32) => (D271 m x1).bind fun (r2 : Int32 × dM) => (gX X (i + (nI 1))).bind fun (x3 : Int32) => (D216 r2.2 x3).bind fun (r4 : Int32 × dM) => (D142 r4.2).bind fun (x5 : Int32) => if x5 = r2.1 then if r2.1 = (nI 0) then (gL r4.2 138 1 (nI 0)).bind fun (x6 : Int64) => Option.bind ((if r4.1 = (nI 0) then some (0 : Int64) else some (1 : Int64)) : Option (Int64)) fun (v7 : Int64) => if (lg_cmp x6 v7) = (nI 0) then some (.inl r4.2) else some (.inr r4.2) else some (.inl r4.2) else some (.inr r4.2)
set_option maxRecDepth 20000 in
theorem c_33 {X : Nat × (Nat → Int32)} {d : Nat} {Q : ax_O → ax_H → Prop} {m : dM} {i : Int32} {v : dM ⊕ dM} (hD : C33 X m i = some v) (kk : lwK X d Q i v) : ax_Wp X (d + 11 + 1) 283 (1900, [some (.retAddr 0), some (.ref 0), some (.ref 130), some (.ref 138), some (.int i), none, none, none, none], []) (stt m) Q := by
  unfold C33 at hD
  refine ax_Wp.go (f' := (1906, [some (.retAddr 0), some (.ref 0), some (.ref 130), some (.ref 138), some (.int i), none, none, none, none], [.int (i + (nI 1)), .retAddr 0, .ref 0])) 5 rfl ?_
  refine ax_Wp.rdX hD rfl (fun x1 hD => ?_)
  refine ax_Wp.go (f' := (1908, [some (.retAddr 0), some (.ref 0), some (.ref 130), some (.ref 138), some (.int i), none, none, none, none], [.ref 138, .int x1, .ref 0])) 1 rfl ?_
  refine bnd hD (fun r2 hx hD => ?_)
  refine ax_Wp.callE (f' := (1911, [some (.retAddr 0), some (.ref 0), some (.ref 130), some (.ref 138), some (.int i), none, none, none, none], [])) rfl rfl (w_271 (d := d + 3) hx) rfl ?_
  refine ax_Wp.go (f' := (1919, [some (.retAddr 0), some (.ref 0), some (.ref 130), some (.ref 138), some (.int i), some (.int r2.1), none, none, none], [.int (i + (nI 1)), .retAddr 0, .ref 130])) 6 rfl ?_
  refine ax_Wp.rdX hD rfl (fun x3 hD => ?_)
  refine bnd hD (fun r4 hx hD => ?_)
  refine ax_Wp.callE (f' := (1923, [some (.retAddr 0), some (.ref 0), some (.ref 130), some (.ref 138), some (.int i), some (.int r2.1), none, none, none], [])) rfl rfl (w_216 (d := d + 8) hx) rfl ?_
  refine ax_Wp.go (f' := (1926, [some (.retAddr 0), some (.ref 0), some (.ref 130), some (.ref 138), some (.int i), some (.int r2.1), some (.int r4.1), none, none], [.ref 130])) 2 rfl ?_
  refine bnd hD (fun x5 hx hD => ?_)
  refine ax_Wp.callE (f' := (1929, [some (.retAddr 0), some (.ref 0), some (.ref 130), some (.ref 138), some (.int i), some (.int r2.1), some (.int r4.1), none, none], [])) rfl rfl (w_142 (d := d + 10) hx) rfl ?_
  refine ax_Wp.go (f' := (1931, [some (.retAddr 0), some (.ref 0), some (.ref 130), some (.ref 138), some (.int i), some (.int r2.1), some (.int r4.1), none, none], [.int r2.1, .int x5])) 1 rfl ?_
  refine ax_Wp.brD hD rfl (fun _ hD => ?_) (fun _ hD => ?_)
  · refine ax_Wp.go (f' := (1938, [some (.retAddr 0), some (.ref 0), some (.ref 130), some (.ref 138), some (.int i), some (.int r2.1), some (.int r4.1), none, none], [.int r2.1])) 1 rfl ?_
    refine ax_Wp.brD hD rfl (fun _ hD => ?_) (fun _ hD => ?_)
    · refine ax_Wp.go (f' := (1943, [some (.retAddr 0), some (.ref 0), some (.ref 130), some (.ref 138), some (.int i), some (.int r2.1), some (.int r4.1), none, none], [.int (nI 0), .ref 138])) 2 rfl ?_
      refine ax_Wp.rdL hD rfl rfl rfl (fun x6 hD => ?_)
      refine ax_Wp.go (f' := (1946, [some (.retAddr 0), some (.ref 0), some (.ref 130), some (.ref 138), some (.int i), some (.int r2.1), some (.int r4.1), none, none], [.int r4.1, .long x6])) 1 rfl ?_
      refine bnd hD (fun v7 hx hD => ?_)
      refine ax_Wp.jn (F := (1954, [some (.retAddr 0), some (.ref 0), some (.ref 130), some (.ref 138), some (.int i), none, none, none, none], [.long v7, .long x6])) (hh := stt r4.2) ?_ (fun kkv7 => ?_)
      · refine ax_Wp.go (f' := (1955, [some (.retAddr 0), some (.ref 0), some (.ref 130), some (.ref 138), some (.int i), none, none, none, none], [.int (lg_cmp x6 v7)])) 1 rfl ?_
        refine ax_Wp.brD hD rfl (fun _ hD => ?_) (fun _ hD => ?_)
        · refine ax_Wp.go (f' := (2778, [some (.retAddr 0), some (.ref 0), some (.ref 130), some (.ref 138), some (.int i), none, none, none, none], [])) 1 rfl ?_
          obtain rfl := inj hD
          exact kk
        · refine ax_Wp.go (f' := (1959, [some (.retAddr 0), some (.ref 0), some (.ref 130), some (.ref 138), some (.int i), none, none, none, none], [.int (nI 0)])) 1 rfl ?_
          obtain rfl := inj hD
          exact ax_Wp.ret rfl kk
      clear hD
      have hD := hx
      clear hx
      refine ax_Wp.brD hD rfl (fun _ hD => ?_) (fun _ hD => ?_)
      · refine ax_Wp.go (f' := (1954, [some (.retAddr 0), some (.ref 0), some (.ref 130), some (.ref 138), some (.int i), some (.int r2.1), some (.int r4.1), none, none], [.long (0 : Int64), .long x6])) 1 rfl ?_
        obtain rfl := inj hD
        exact ax_Wp.dead kkv7 ⟨.inl rfl, ⟨.inl rfl, ⟨.inl rfl, ⟨.inl rfl, ⟨.inl rfl, ⟨.inr ⟨rfl, trivial⟩, ⟨.inr ⟨rfl, trivial⟩, ⟨.inl rfl, ⟨.inl rfl, trivial⟩⟩⟩⟩⟩⟩⟩⟩⟩
      · refine ax_Wp.go (f' := (1954, [some (.retAddr 0), some (.ref 0), some (.ref 130), some (.ref 138), some (.int i), some (.int r2.1), some (.int r4.1), none, none], [.long (1 : Int64), .long x6])) 2 rfl ?_
        obtain rfl := inj hD
        exact ax_Wp.dead kkv7 ⟨.inl rfl, ⟨.inl rfl, ⟨.inl rfl, ⟨.inl rfl, ⟨.inl rfl, ⟨.inr ⟨rfl, trivial⟩, ⟨.inr ⟨rfl, trivial⟩, ⟨.inl rfl, ⟨.inl rfl, trivial⟩⟩⟩⟩⟩⟩⟩⟩⟩
    · refine ax_Wp.go (f' := (2778, [some (.retAddr 0), some (.ref 0), some (.ref 130), some (.ref 138), some (.int i), some (.int r2.1), some (.int r4.1), none, none], [])) 1 rfl ?_
      obtain rfl := inj hD
      exact ax_Wp.dead kk ⟨.inl rfl, ⟨.inl rfl, ⟨.inl rfl, ⟨.inl rfl, ⟨.inl rfl, ⟨.inr ⟨rfl, trivial⟩, ⟨.inr ⟨rfl, trivial⟩, ⟨.inl rfl, ⟨.inl rfl, trivial⟩⟩⟩⟩⟩⟩⟩⟩⟩
  · refine ax_Wp.go (f' := (1935, [some (.retAddr 0), some (.ref 0), some (.ref 130), some (.ref 138), some (.int i), some (.int r2.1), some (.int r4.1), none, none], [.int (nI 0)])) 1 rfl ?_
    obtain rfl := inj hD
    exact ax_Wp.ret rfl kk
def C34 (X : Nat × (Nat → Int32)) (m : dM) (i : Int32) : Option (dM ⊕ dM) := (gX X (i + (nI 1))).bind fun (x1 : Int32) => (D272 m x1).bind fun (r2 : Int32 × dM) => (gX X (i + (nI 1))).bind fun (x3 : Int32) => (D217 r2.2 x3).bind fun (r4 : Int32 × dM) => (D142 r4.2).bind fun (x5 : Int32) => if x5 = r2.1 then if r2.1 = (nI 0) then (gL r4.2 138 1 (nI 0)).bind fun (x6 : Int64) => if (lg_cmp x6 r4.1.toInt64) = (nI 0) then some (.inl r4.2) else some (.inr r4.2) else some (.inl r4.2) else some (.inr r4.2)
set_option maxRecDepth 20000 in
theorem c_34 {X : Nat × (Nat → Int32)} {d : Nat} {Q : ax_O → ax_H → Prop} {m : dM} {i : Int32} {v : dM ⊕ dM} (hD : C34 X m i = some v) (kk : lwK X d Q i v) : ax_Wp X (d + 11 + 1) 283 (1963, [some (.retAddr 0), some (.ref 0), some (.ref 130), some (.ref 138), some (.int i), none, none, none, none], []) (stt m) Q := by
  unfold C34 at hD
  refine ax_Wp.go (f' := (1969, [some (.retAddr 0), some (.ref 0), some (.ref 130), some (.ref 138), some (.int i), none, none, none, none], [.int (i + (nI 1)), .retAddr 0, .ref 0])) 5 rfl ?_
  refine ax_Wp.rdX hD rfl (fun x1 hD => ?_)
  refine ax_Wp.go (f' := (1971, [some (.retAddr 0), some (.ref 0), some (.ref 130), some (.ref 138), some (.int i), none, none, none, none], [.ref 138, .int x1, .ref 0])) 1 rfl ?_
  refine bnd hD (fun r2 hx hD => ?_)
  refine ax_Wp.callE (f' := (1974, [some (.retAddr 0), some (.ref 0), some (.ref 130), some (.ref 138), some (.int i), none, none, none, none], [])) rfl rfl (w_272 (d := d + 3) hx) rfl ?_
  refine ax_Wp.go (f' := (1982, [some (.retAddr 0), some (.ref 0), some (.ref 130), some (.ref 138), some (.int i), some (.int r2.1), none, none, none], [.int (i + (nI 1)), .retAddr 0, .ref 130])) 6 rfl ?_
  refine ax_Wp.rdX hD rfl (fun x3 hD => ?_)
  refine bnd hD (fun r4 hx hD => ?_)
  refine ax_Wp.callE (f' := (1986, [some (.retAddr 0), some (.ref 0), some (.ref 130), some (.ref 138), some (.int i), some (.int r2.1), none, none, none], [])) rfl rfl (w_217 (d := d + 8) hx) rfl ?_
  refine ax_Wp.go (f' := (1989, [some (.retAddr 0), some (.ref 0), some (.ref 130), some (.ref 138), some (.int i), some (.int r2.1), some (.int r4.1), none, none], [.ref 130])) 2 rfl ?_
  refine bnd hD (fun x5 hx hD => ?_)
  refine ax_Wp.callE (f' := (1992, [some (.retAddr 0), some (.ref 0), some (.ref 130), some (.ref 138), some (.int i), some (.int r2.1), some (.int r4.1), none, none], [])) rfl rfl (w_142 (d := d + 10) hx) rfl ?_
  refine ax_Wp.go (f' := (1994, [some (.retAddr 0), some (.ref 0), some (.ref 130), some (.ref 138), some (.int i), some (.int r2.1), some (.int r4.1), none, none], [.int r2.1, .int x5])) 1 rfl ?_
  refine ax_Wp.brD hD rfl (fun _ hD => ?_) (fun _ hD => ?_)
  · refine ax_Wp.go (f' := (2001, [some (.retAddr 0), some (.ref 0), some (.ref 130), some (.ref 138), some (.int i), some (.int r2.1), some (.int r4.1), none, none], [.int r2.1])) 1 rfl ?_
    refine ax_Wp.brD hD rfl (fun _ hD => ?_) (fun _ hD => ?_)
    · refine ax_Wp.go (f' := (2006, [some (.retAddr 0), some (.ref 0), some (.ref 130), some (.ref 138), some (.int i), some (.int r2.1), some (.int r4.1), none, none], [.int (nI 0), .ref 138])) 2 rfl ?_
      refine ax_Wp.rdL hD rfl rfl rfl (fun x6 hD => ?_)
      refine ax_Wp.go (f' := (2011, [some (.retAddr 0), some (.ref 0), some (.ref 130), some (.ref 138), some (.int i), some (.int r2.1), some (.int r4.1), none, none], [.int (lg_cmp x6 r4.1.toInt64)])) 3 rfl ?_
      refine ax_Wp.brD hD rfl (fun _ hD => ?_) (fun _ hD => ?_)
      · refine ax_Wp.go (f' := (2778, [some (.retAddr 0), some (.ref 0), some (.ref 130), some (.ref 138), some (.int i), some (.int r2.1), some (.int r4.1), none, none], [])) 1 rfl ?_
        obtain rfl := inj hD
        exact ax_Wp.dead kk ⟨.inl rfl, ⟨.inl rfl, ⟨.inl rfl, ⟨.inl rfl, ⟨.inl rfl, ⟨.inr ⟨rfl, trivial⟩, ⟨.inr ⟨rfl, trivial⟩, ⟨.inl rfl, ⟨.inl rfl, trivial⟩⟩⟩⟩⟩⟩⟩⟩⟩
      · refine ax_Wp.go (f' := (2015, [some (.retAddr 0), some (.ref 0), some (.ref 130), some (.ref 138), some (.int i), some (.int r2.1), some (.int r4.1), none, none], [.int (nI 0)])) 1 rfl ?_
        obtain rfl := inj hD
        exact ax_Wp.ret rfl kk
    · refine ax_Wp.go (f' := (2778, [some (.retAddr 0), some (.ref 0), some (.ref 130), some (.ref 138), some (.int i), some (.int r2.1), some (.int r4.1), none, none], [])) 1 rfl ?_
      obtain rfl := inj hD
      exact ax_Wp.dead kk ⟨.inl rfl, ⟨.inl rfl, ⟨.inl rfl, ⟨.inl rfl, ⟨.inl rfl, ⟨.inr ⟨rfl, trivial⟩, ⟨.inr ⟨rfl, trivial⟩, ⟨.inl rfl, ⟨.inl rfl, trivial⟩⟩⟩⟩⟩⟩⟩⟩⟩
  · refine ax_Wp.go (f' := (1998, [some (.retAddr 0), some (.ref 0), some (.ref 130), some (.ref 138), some (.int i), some (.int r2.1), some (.int r4.1), none, none], [.int (nI 0)])) 1 rfl ?_
    obtain rfl := inj hD
    exact ax_Wp.ret rfl kk
def C35 (X : Nat × (Nat → Int32)) (m : dM) (i : Int32) : Option (dM ⊕ dM) := (gX X (i + (nI 1))).bind fun (x1 : Int32) => (D273 m x1).bind fun (r2 : Int32 × dM) => (gX X (i + (nI 1))).bind fun (x3 : Int32) => (D219 r2.2 x3).bind fun (r4 : Int32 × dM) => (D142 r4.2).bind fun (x5 : Int32) => if x5 = r2.1 then if r2.1 = (nI 0) then (gL r4.2 138 1 (nI 0)).bind fun (x6 : Int64) => if (lg_cmp x6 r4.1.toInt64) = (nI 0) then some (.inl r4.2) else some (.inr r4.2) else some (.inl r4.2) else some (.inr r4.2)
set_option maxRecDepth 20000 in
theorem c_35 {X : Nat × (Nat → Int32)} {d : Nat} {Q : ax_O → ax_H → Prop} {m : dM} {i : Int32} {v : dM ⊕ dM} (hD : C35 X m i = some v) (kk : lwK X d Q i v) : ax_Wp X (d + 11 + 1) 283 (2019, [some (.retAddr 0), some (.ref 0), some (.ref 130), some (.ref 138), some (.int i), none, none, none, none], []) (stt m) Q := by
  unfold C35 at hD
  refine ax_Wp.go (f' := (2025, [some (.retAddr 0), some (.ref 0), some (.ref 130), some (.ref 138), some (.int i), none, none, none, none], [.int (i + (nI 1)), .retAddr 0, .ref 0])) 5 rfl ?_
  refine ax_Wp.rdX hD rfl (fun x1 hD => ?_)
  refine ax_Wp.go (f' := (2027, [some (.retAddr 0), some (.ref 0), some (.ref 130), some (.ref 138), some (.int i), none, none, none, none], [.ref 138, .int x1, .ref 0])) 1 rfl ?_
  refine bnd hD (fun r2 hx hD => ?_)
  refine ax_Wp.callE (f' := (2030, [some (.retAddr 0), some (.ref 0), some (.ref 130), some (.ref 138), some (.int i), none, none, none, none], [])) rfl rfl (w_273 (d := d + 3) hx) rfl ?_
  refine ax_Wp.go (f' := (2038, [some (.retAddr 0), some (.ref 0), some (.ref 130), some (.ref 138), some (.int i), some (.int r2.1), none, none, none], [.int (i + (nI 1)), .retAddr 0, .ref 130])) 6 rfl ?_
  refine ax_Wp.rdX hD rfl (fun x3 hD => ?_)
  refine bnd hD (fun r4 hx hD => ?_)
  refine ax_Wp.callE (f' := (2042, [some (.retAddr 0), some (.ref 0), some (.ref 130), some (.ref 138), some (.int i), some (.int r2.1), none, none, none], [])) rfl rfl (w_219 (d := d + 8) hx) rfl ?_
  refine ax_Wp.go (f' := (2045, [some (.retAddr 0), some (.ref 0), some (.ref 130), some (.ref 138), some (.int i), some (.int r2.1), some (.int r4.1), none, none], [.ref 130])) 2 rfl ?_
  refine bnd hD (fun x5 hx hD => ?_)
  refine ax_Wp.callE (f' := (2048, [some (.retAddr 0), some (.ref 0), some (.ref 130), some (.ref 138), some (.int i), some (.int r2.1), some (.int r4.1), none, none], [])) rfl rfl (w_142 (d := d + 10) hx) rfl ?_
  refine ax_Wp.go (f' := (2050, [some (.retAddr 0), some (.ref 0), some (.ref 130), some (.ref 138), some (.int i), some (.int r2.1), some (.int r4.1), none, none], [.int r2.1, .int x5])) 1 rfl ?_
  refine ax_Wp.brD hD rfl (fun _ hD => ?_) (fun _ hD => ?_)
  · refine ax_Wp.go (f' := (2057, [some (.retAddr 0), some (.ref 0), some (.ref 130), some (.ref 138), some (.int i), some (.int r2.1), some (.int r4.1), none, none], [.int r2.1])) 1 rfl ?_
    refine ax_Wp.brD hD rfl (fun _ hD => ?_) (fun _ hD => ?_)
    · refine ax_Wp.go (f' := (2062, [some (.retAddr 0), some (.ref 0), some (.ref 130), some (.ref 138), some (.int i), some (.int r2.1), some (.int r4.1), none, none], [.int (nI 0), .ref 138])) 2 rfl ?_
      refine ax_Wp.rdL hD rfl rfl rfl (fun x6 hD => ?_)
      refine ax_Wp.go (f' := (2067, [some (.retAddr 0), some (.ref 0), some (.ref 130), some (.ref 138), some (.int i), some (.int r2.1), some (.int r4.1), none, none], [.int (lg_cmp x6 r4.1.toInt64)])) 3 rfl ?_
      refine ax_Wp.brD hD rfl (fun _ hD => ?_) (fun _ hD => ?_)
      · refine ax_Wp.go (f' := (2778, [some (.retAddr 0), some (.ref 0), some (.ref 130), some (.ref 138), some (.int i), some (.int r2.1), some (.int r4.1), none, none], [])) 1 rfl ?_
        obtain rfl := inj hD
        exact ax_Wp.dead kk ⟨.inl rfl, ⟨.inl rfl, ⟨.inl rfl, ⟨.inl rfl, ⟨.inl rfl, ⟨.inr ⟨rfl, trivial⟩, ⟨.inr ⟨rfl, trivial⟩, ⟨.inl rfl, ⟨.inl rfl, trivial⟩⟩⟩⟩⟩⟩⟩⟩⟩
      · refine ax_Wp.go (f' := (2071, [some (.retAddr 0), some (.ref 0), some (.ref 130), some (.ref 138), some (.int i), some (.int r2.1), some (.int r4.1), none, none], [.int (nI 0)])) 1 rfl ?_
        obtain rfl := inj hD
        exact ax_Wp.ret rfl kk
    · refine ax_Wp.go (f' := (2778, [some (.retAddr 0), some (.ref 0), some (.ref 130), some (.ref 138), some (.int i), some (.int r2.1), some (.int r4.1), none, none], [])) 1 rfl ?_
      obtain rfl := inj hD
      exact ax_Wp.dead kk ⟨.inl rfl, ⟨.inl rfl, ⟨.inl rfl, ⟨.inl rfl, ⟨.inl rfl, ⟨.inr ⟨rfl, trivial⟩, ⟨.inr ⟨rfl, trivial⟩, ⟨.inl rfl, ⟨.inl rfl, trivial⟩⟩⟩⟩⟩⟩⟩⟩⟩
  · refine ax_Wp.go (f' := (2054, [some (.retAddr 0), some (.ref 0), some (.ref 130), some (.ref 138), some (.int i), some (.int r2.1), some (.int r4.1), none, none], [.int (nI 0)])) 1 rfl ?_
    obtain rfl := inj hD
    exact ax_Wp.ret rfl kk
def C36 (X : Nat × (Nat → Int32)) (m : dM) (i : Int32) : Option (dM ⊕ dM) := (gX X (i + (nI 1))).bind fun (x1 : Int32) => (D274 m x1).bind fun (r2 : Int32 × dM) => (gX X (i + (nI 1))).bind fun (x3 : Int32) => (D220 r2.2 x3).bind fun (r4 : Int32 × dM) => (D142 r4.2).bind fun (x5 : Int32) => if x5 = r2.1 then if r2.1 = (nI 0) then (gL r4.2 138 1 (nI 0)).bind fun (x6 : Int64) => if (lg_cmp x6 r4.1.toInt64) = (nI 0) then some (.inl r4.2) else some (.inr r4.2) else some (.inl r4.2) else some (.inr r4.2)
set_option maxRecDepth 20000 in
theorem c_36 {X : Nat × (Nat → Int32)} {d : Nat} {Q : ax_O → ax_H → Prop} {m : dM} {i : Int32} {v : dM ⊕ dM} (hD : C36 X m i = some v) (kk : lwK X d Q i v) : ax_Wp X (d + 11 + 1) 283 (2075, [some (.retAddr 0), some (.ref 0), some (.ref 130), some (.ref 138), some (.int i), none, none, none, none], []) (stt m) Q := by
  unfold C36 at hD
  refine ax_Wp.go (f' := (2081, [some (.retAddr 0), some (.ref 0), some (.ref 130), some (.ref 138), some (.int i), none, none, none, none], [.int (i + (nI 1)), .retAddr 0, .ref 0])) 5 rfl ?_
  refine ax_Wp.rdX hD rfl (fun x1 hD => ?_)
  refine ax_Wp.go (f' := (2083, [some (.retAddr 0), some (.ref 0), some (.ref 130), some (.ref 138), some (.int i), none, none, none, none], [.ref 138, .int x1, .ref 0])) 1 rfl ?_
  refine bnd hD (fun r2 hx hD => ?_)
  refine ax_Wp.callE (f' := (2086, [some (.retAddr 0), some (.ref 0), some (.ref 130), some (.ref 138), some (.int i), none, none, none, none], [])) rfl rfl (w_274 (d := d + 3) hx) rfl ?_
  refine ax_Wp.go (f' := (2094, [some (.retAddr 0), some (.ref 0), some (.ref 130), some (.ref 138), some (.int i), some (.int r2.1), none, none, none], [.int (i + (nI 1)), .retAddr 0, .ref 130])) 6 rfl ?_
  refine ax_Wp.rdX hD rfl (fun x3 hD => ?_)
  refine bnd hD (fun r4 hx hD => ?_)
  refine ax_Wp.callE (f' := (2098, [some (.retAddr 0), some (.ref 0), some (.ref 130), some (.ref 138), some (.int i), some (.int r2.1), none, none, none], [])) rfl rfl (w_220 (d := d + 9) hx) rfl ?_
  refine ax_Wp.go (f' := (2101, [some (.retAddr 0), some (.ref 0), some (.ref 130), some (.ref 138), some (.int i), some (.int r2.1), some (.int r4.1), none, none], [.ref 130])) 2 rfl ?_
  refine bnd hD (fun x5 hx hD => ?_)
  refine ax_Wp.callE (f' := (2104, [some (.retAddr 0), some (.ref 0), some (.ref 130), some (.ref 138), some (.int i), some (.int r2.1), some (.int r4.1), none, none], [])) rfl rfl (w_142 (d := d + 10) hx) rfl ?_
  refine ax_Wp.go (f' := (2106, [some (.retAddr 0), some (.ref 0), some (.ref 130), some (.ref 138), some (.int i), some (.int r2.1), some (.int r4.1), none, none], [.int r2.1, .int x5])) 1 rfl ?_
  refine ax_Wp.brD hD rfl (fun _ hD => ?_) (fun _ hD => ?_)
  · refine ax_Wp.go (f' := (2113, [some (.retAddr 0), some (.ref 0), some (.ref 130), some (.ref 138), some (.int i), some (.int r2.1), some (.int r4.1), none, none], [.int r2.1])) 1 rfl ?_
    refine ax_Wp.brD hD rfl (fun _ hD => ?_) (fun _ hD => ?_)
    · refine ax_Wp.go (f' := (2118, [some (.retAddr 0), some (.ref 0), some (.ref 130), some (.ref 138), some (.int i), some (.int r2.1), some (.int r4.1), none, none], [.int (nI 0), .ref 138])) 2 rfl ?_
      refine ax_Wp.rdL hD rfl rfl rfl (fun x6 hD => ?_)
      refine ax_Wp.go (f' := (2123, [some (.retAddr 0), some (.ref 0), some (.ref 130), some (.ref 138), some (.int i), some (.int r2.1), some (.int r4.1), none, none], [.int (lg_cmp x6 r4.1.toInt64)])) 3 rfl ?_
      refine ax_Wp.brD hD rfl (fun _ hD => ?_) (fun _ hD => ?_)
      · refine ax_Wp.go (f' := (2778, [some (.retAddr 0), some (.ref 0), some (.ref 130), some (.ref 138), some (.int i), some (.int r2.1), some (.int r4.1), none, none], [])) 1 rfl ?_
        obtain rfl := inj hD
        exact ax_Wp.dead kk ⟨.inl rfl, ⟨.inl rfl, ⟨.inl rfl, ⟨.inl rfl, ⟨.inl rfl, ⟨.inr ⟨rfl, trivial⟩, ⟨.inr ⟨rfl, trivial⟩, ⟨.inl rfl, ⟨.inl rfl, trivial⟩⟩⟩⟩⟩⟩⟩⟩⟩
      · refine ax_Wp.go (f' := (2127, [some (.retAddr 0), some (.ref 0), some (.ref 130), some (.ref 138), some (.int i), some (.int r2.1), some (.int r4.1), none, none], [.int (nI 0)])) 1 rfl ?_
        obtain rfl := inj hD
        exact ax_Wp.ret rfl kk
    · refine ax_Wp.go (f' := (2778, [some (.retAddr 0), some (.ref 0), some (.ref 130), some (.ref 138), some (.int i), some (.int r2.1), some (.int r4.1), none, none], [])) 1 rfl ?_
      obtain rfl := inj hD
      exact ax_Wp.dead kk ⟨.inl rfl, ⟨.inl rfl, ⟨.inl rfl, ⟨.inl rfl, ⟨.inl rfl, ⟨.inr ⟨rfl, trivial⟩, ⟨.inr ⟨rfl, trivial⟩, ⟨.inl rfl, ⟨.inl rfl, trivial⟩⟩⟩⟩⟩⟩⟩⟩⟩
  · refine ax_Wp.go (f' := (2110, [some (.retAddr 0), some (.ref 0), some (.ref 130), some (.ref 138), some (.int i), some (.int r2.1), some (.int r4.1), none, none], [.int (nI 0)])) 1 rfl ?_
    obtain rfl := inj hD
    exact ax_Wp.ret rfl kk
def C37 (X : Nat × (Nat → Int32)) (m : dM) (i : Int32) : Option (dM ⊕ dM) := (gX X (i + (nI 1))).bind fun (x1 : Int32) => (D275 m x1).bind fun (r2 : Int32 × dM) => (gX X (i + (nI 1))).bind fun (x3 : Int32) => (D221 r2.2 x3).bind fun (r4 : Int32 × dM) => (D142 r4.2).bind fun (x5 : Int32) => if x5 = r2.1 then if r2.1 = (nI 0) then (gL r4.2 138 1 (nI 0)).bind fun (x6 : Int64) => if (lg_cmp x6 r4.1.toInt64) = (nI 0) then some (.inl r4.2) else some (.inr r4.2) else some (.inl r4.2) else some (.inr r4.2)
set_option maxRecDepth 20000 in
theorem c_37 {X : Nat × (Nat → Int32)} {d : Nat} {Q : ax_O → ax_H → Prop} {m : dM} {i : Int32} {v : dM ⊕ dM} (hD : C37 X m i = some v) (kk : lwK X d Q i v) : ax_Wp X (d + 11 + 1) 283 (2131, [some (.retAddr 0), some (.ref 0), some (.ref 130), some (.ref 138), some (.int i), none, none, none, none], []) (stt m) Q := by
  unfold C37 at hD
  refine ax_Wp.go (f' := (2137, [some (.retAddr 0), some (.ref 0), some (.ref 130), some (.ref 138), some (.int i), none, none, none, none], [.int (i + (nI 1)), .retAddr 0, .ref 0])) 5 rfl ?_
  refine ax_Wp.rdX hD rfl (fun x1 hD => ?_)
  refine ax_Wp.go (f' := (2139, [some (.retAddr 0), some (.ref 0), some (.ref 130), some (.ref 138), some (.int i), none, none, none, none], [.ref 138, .int x1, .ref 0])) 1 rfl ?_
  refine bnd hD (fun r2 hx hD => ?_)
  refine ax_Wp.callE (f' := (2142, [some (.retAddr 0), some (.ref 0), some (.ref 130), some (.ref 138), some (.int i), none, none, none, none], [])) rfl rfl (w_275 (d := d + 3) hx) rfl ?_
  refine ax_Wp.go (f' := (2150, [some (.retAddr 0), some (.ref 0), some (.ref 130), some (.ref 138), some (.int i), some (.int r2.1), none, none, none], [.int (i + (nI 1)), .retAddr 0, .ref 130])) 6 rfl ?_
  refine ax_Wp.rdX hD rfl (fun x3 hD => ?_)
  refine bnd hD (fun r4 hx hD => ?_)
  refine ax_Wp.callE (f' := (2154, [some (.retAddr 0), some (.ref 0), some (.ref 130), some (.ref 138), some (.int i), some (.int r2.1), none, none, none], [])) rfl rfl (w_221 (d := d + 9) hx) rfl ?_
  refine ax_Wp.go (f' := (2157, [some (.retAddr 0), some (.ref 0), some (.ref 130), some (.ref 138), some (.int i), some (.int r2.1), some (.int r4.1), none, none], [.ref 130])) 2 rfl ?_
  refine bnd hD (fun x5 hx hD => ?_)
  refine ax_Wp.callE (f' := (2160, [some (.retAddr 0), some (.ref 0), some (.ref 130), some (.ref 138), some (.int i), some (.int r2.1), some (.int r4.1), none, none], [])) rfl rfl (w_142 (d := d + 10) hx) rfl ?_
  refine ax_Wp.go (f' := (2162, [some (.retAddr 0), some (.ref 0), some (.ref 130), some (.ref 138), some (.int i), some (.int r2.1), some (.int r4.1), none, none], [.int r2.1, .int x5])) 1 rfl ?_
  refine ax_Wp.brD hD rfl (fun _ hD => ?_) (fun _ hD => ?_)
  · refine ax_Wp.go (f' := (2169, [some (.retAddr 0), some (.ref 0), some (.ref 130), some (.ref 138), some (.int i), some (.int r2.1), some (.int r4.1), none, none], [.int r2.1])) 1 rfl ?_
    refine ax_Wp.brD hD rfl (fun _ hD => ?_) (fun _ hD => ?_)
    · refine ax_Wp.go (f' := (2174, [some (.retAddr 0), some (.ref 0), some (.ref 130), some (.ref 138), some (.int i), some (.int r2.1), some (.int r4.1), none, none], [.int (nI 0), .ref 138])) 2 rfl ?_
      refine ax_Wp.rdL hD rfl rfl rfl (fun x6 hD => ?_)
      refine ax_Wp.go (f' := (2179, [some (.retAddr 0), some (.ref 0), some (.ref 130), some (.ref 138), some (.int i), some (.int r2.1), some (.int r4.1), none, none], [.int (lg_cmp x6 r4.1.toInt64)])) 3 rfl ?_
      refine ax_Wp.brD hD rfl (fun _ hD => ?_) (fun _ hD => ?_)
      · refine ax_Wp.go (f' := (2778, [some (.retAddr 0), some (.ref 0), some (.ref 130), some (.ref 138), some (.int i), some (.int r2.1), some (.int r4.1), none, none], [])) 1 rfl ?_
        obtain rfl := inj hD
        exact ax_Wp.dead kk ⟨.inl rfl, ⟨.inl rfl, ⟨.inl rfl, ⟨.inl rfl, ⟨.inl rfl, ⟨.inr ⟨rfl, trivial⟩, ⟨.inr ⟨rfl, trivial⟩, ⟨.inl rfl, ⟨.inl rfl, trivial⟩⟩⟩⟩⟩⟩⟩⟩⟩
      · refine ax_Wp.go (f' := (2183, [some (.retAddr 0), some (.ref 0), some (.ref 130), some (.ref 138), some (.int i), some (.int r2.1), some (.int r4.1), none, none], [.int (nI 0)])) 1 rfl ?_
        obtain rfl := inj hD
        exact ax_Wp.ret rfl kk
    · refine ax_Wp.go (f' := (2778, [some (.retAddr 0), some (.ref 0), some (.ref 130), some (.ref 138), some (.int i), some (.int r2.1), some (.int r4.1), none, none], [])) 1 rfl ?_
      obtain rfl := inj hD
      exact ax_Wp.dead kk ⟨.inl rfl, ⟨.inl rfl, ⟨.inl rfl, ⟨.inl rfl, ⟨.inl rfl, ⟨.inr ⟨rfl, trivial⟩, ⟨.inr ⟨rfl, trivial⟩, ⟨.inl rfl, ⟨.inl rfl, trivial⟩⟩⟩⟩⟩⟩⟩⟩⟩
  · refine ax_Wp.go (f' := (2166, [some (.retAddr 0), some (.ref 0), some (.ref 130), some (.ref 138), some (.int i), some (.int r2.1), some (.int r4.1), none, none], [.int (nI 0)])) 1 rfl ?_
    obtain rfl := inj hD
    exact ax_Wp.ret rfl kk
def C38 (X : Nat × (Nat → Int32)) (m : dM) (i : Int32) : Option (dM ⊕ dM) := (D108 m).bind fun (x1 : Int32) => (D222 m).bind fun (r2 : Int32 × dM) => if x1 = r2.1 then some (.inl r2.2) else some (.inr r2.2)
set_option maxRecDepth 20000 in
theorem c_38 {X : Nat × (Nat → Int32)} {d : Nat} {Q : ax_O → ax_H → Prop} {m : dM} {i : Int32} {v : dM ⊕ dM} (hD : C38 X m i = some v) (kk : lwK X d Q i v) : ax_Wp X (d + 11 + 1) 283 (2187, [some (.retAddr 0), some (.ref 0), some (.ref 130), some (.ref 138), some (.int i), none, none, none, none], []) (stt m) Q := by
  unfold C38 at hD
  refine ax_Wp.go (f' := (2188, [some (.retAddr 0), some (.ref 0), some (.ref 130), some (.ref 138), some (.int i), none, none, none, none], [.ref 0])) 1 rfl ?_
  refine bnd hD (fun x1 hx hD => ?_)
  refine ax_Wp.callE (f' := (2191, [some (.retAddr 0), some (.ref 0), some (.ref 130), some (.ref 138), some (.int i), none, none, none, none], [])) rfl rfl (w_108 (d := d + 10) hx) rfl ?_
  refine ax_Wp.go (f' := (2192, [some (.retAddr 0), some (.ref 0), some (.ref 130), some (.ref 138), some (.int i), none, none, none, none], [.ref 130, .int x1])) 1 rfl ?_
  refine bnd hD (fun r2 hx hD => ?_)
  refine ax_Wp.callE (f' := (2195, [some (.retAddr 0), some (.ref 0), some (.ref 130), some (.ref 138), some (.int i), none, none, none, none], [.int x1])) rfl rfl (w_222 (d := d + 10) hx) rfl ?_
  refine ax_Wp.brD hD rfl (fun _ hD => ?_) (fun _ hD => ?_)
  · obtain rfl := inj hD
    exact kk
  · refine ax_Wp.go (f' := (2199, [some (.retAddr 0), some (.ref 0), some (.ref 130), some (.ref 138), some (.int i), none, none, none, none], [.int (nI 0)])) 1 rfl ?_
    obtain rfl := inj hD
    exact ax_Wp.ret rfl kk
def C39 (X : Nat × (Nat → Int32)) (m : dM) (i : Int32) : Option (dM ⊕ dM) := (D109 m).bind fun (x1 : Int32) => (D223 m).bind fun (r2 : Int32 × dM) => if x1 = r2.1 then some (.inl r2.2) else some (.inr r2.2)
set_option maxRecDepth 20000 in
theorem c_39 {X : Nat × (Nat → Int32)} {d : Nat} {Q : ax_O → ax_H → Prop} {m : dM} {i : Int32} {v : dM ⊕ dM} (hD : C39 X m i = some v) (kk : lwK X d Q i v) : ax_Wp X (d + 11 + 1) 283 (2200, [some (.retAddr 0), some (.ref 0), some (.ref 130), some (.ref 138), some (.int i), none, none, none, none], []) (stt m) Q := by
  unfold C39 at hD
  refine ax_Wp.go (f' := (2201, [some (.retAddr 0), some (.ref 0), some (.ref 130), some (.ref 138), some (.int i), none, none, none, none], [.ref 0])) 1 rfl ?_
  refine bnd hD (fun x1 hx hD => ?_)
  refine ax_Wp.callE (f' := (2204, [some (.retAddr 0), some (.ref 0), some (.ref 130), some (.ref 138), some (.int i), none, none, none, none], [])) rfl rfl (w_109 (d := d + 10) hx) rfl ?_
  refine ax_Wp.go (f' := (2205, [some (.retAddr 0), some (.ref 0), some (.ref 130), some (.ref 138), some (.int i), none, none, none, none], [.ref 130, .int x1])) 1 rfl ?_
  refine bnd hD (fun r2 hx hD => ?_)
  refine ax_Wp.callE (f' := (2208, [some (.retAddr 0), some (.ref 0), some (.ref 130), some (.ref 138), some (.int i), none, none, none, none], [.int x1])) rfl rfl (w_223 (d := d + 10) hx) rfl ?_
  refine ax_Wp.brD hD rfl (fun _ hD => ?_) (fun _ hD => ?_)
  · obtain rfl := inj hD
    exact kk
  · refine ax_Wp.go (f' := (2212, [some (.retAddr 0), some (.ref 0), some (.ref 130), some (.ref 138), some (.int i), none, none, none, none], [.int (nI 0)])) 1 rfl ?_
    obtain rfl := inj hD
    exact ax_Wp.ret rfl kk
def C40 (X : Nat × (Nat → Int32)) (m : dM) (i : Int32) : Option (dM ⊕ dM) := (D110 m).bind fun (x1 : Int32) => (D224 m).bind fun (r2 : Int32 × dM) => if x1 = r2.1 then some (.inl r2.2) else some (.inr r2.2)
set_option maxRecDepth 20000 in
theorem c_40 {X : Nat × (Nat → Int32)} {d : Nat} {Q : ax_O → ax_H → Prop} {m : dM} {i : Int32} {v : dM ⊕ dM} (hD : C40 X m i = some v) (kk : lwK X d Q i v) : ax_Wp X (d + 11 + 1) 283 (2213, [some (.retAddr 0), some (.ref 0), some (.ref 130), some (.ref 138), some (.int i), none, none, none, none], []) (stt m) Q := by
  unfold C40 at hD
  refine ax_Wp.go (f' := (2214, [some (.retAddr 0), some (.ref 0), some (.ref 130), some (.ref 138), some (.int i), none, none, none, none], [.ref 0])) 1 rfl ?_
  refine bnd hD (fun x1 hx hD => ?_)
  refine ax_Wp.callE (f' := (2217, [some (.retAddr 0), some (.ref 0), some (.ref 130), some (.ref 138), some (.int i), none, none, none, none], [])) rfl rfl (w_110 (d := d + 9) hx) rfl ?_
  refine ax_Wp.go (f' := (2218, [some (.retAddr 0), some (.ref 0), some (.ref 130), some (.ref 138), some (.int i), none, none, none, none], [.ref 130, .int x1])) 1 rfl ?_
  refine bnd hD (fun r2 hx hD => ?_)
  refine ax_Wp.callE (f' := (2221, [some (.retAddr 0), some (.ref 0), some (.ref 130), some (.ref 138), some (.int i), none, none, none, none], [.int x1])) rfl rfl (w_224 (d := d + 7) hx) rfl ?_
  refine ax_Wp.brD hD rfl (fun _ hD => ?_) (fun _ hD => ?_)
  · obtain rfl := inj hD
    exact kk
  · refine ax_Wp.go (f' := (2225, [some (.retAddr 0), some (.ref 0), some (.ref 130), some (.ref 138), some (.int i), none, none, none, none], [.int (nI 0)])) 1 rfl ?_
    obtain rfl := inj hD
    exact ax_Wp.ret rfl kk
def C41 (X : Nat × (Nat → Int32)) (m : dM) (i : Int32) : Option (dM ⊕ dM) := (D111 m).bind fun (x1 : Int32) => (D225 m).bind fun (r2 : Int32 × dM) => if x1 = r2.1 then some (.inl r2.2) else some (.inr r2.2)
set_option maxRecDepth 20000 in
theorem c_41 {X : Nat × (Nat → Int32)} {d : Nat} {Q : ax_O → ax_H → Prop} {m : dM} {i : Int32} {v : dM ⊕ dM} (hD : C41 X m i = some v) (kk : lwK X d Q i v) : ax_Wp X (d + 11 + 1) 283 (2226, [some (.retAddr 0), some (.ref 0), some (.ref 130), some (.ref 138), some (.int i), none, none, none, none], []) (stt m) Q := by
  unfold C41 at hD
  refine ax_Wp.go (f' := (2227, [some (.retAddr 0), some (.ref 0), some (.ref 130), some (.ref 138), some (.int i), none, none, none, none], [.ref 0])) 1 rfl ?_
  refine bnd hD (fun x1 hx hD => ?_)
  refine ax_Wp.callE (f' := (2230, [some (.retAddr 0), some (.ref 0), some (.ref 130), some (.ref 138), some (.int i), none, none, none, none], [])) rfl rfl (w_111 (d := d + 8) hx) rfl ?_
  refine ax_Wp.go (f' := (2231, [some (.retAddr 0), some (.ref 0), some (.ref 130), some (.ref 138), some (.int i), none, none, none, none], [.ref 130, .int x1])) 1 rfl ?_
  refine bnd hD (fun r2 hx hD => ?_)
  refine ax_Wp.callE (f' := (2234, [some (.retAddr 0), some (.ref 0), some (.ref 130), some (.ref 138), some (.int i), none, none, none, none], [.int x1])) rfl rfl (w_225 (d := d + 9) hx) rfl ?_
  refine ax_Wp.brD hD rfl (fun _ hD => ?_) (fun _ hD => ?_)
  · obtain rfl := inj hD
    exact kk
  · refine ax_Wp.go (f' := (2238, [some (.retAddr 0), some (.ref 0), some (.ref 130), some (.ref 138), some (.int i), none, none, none, none], [.int (nI 0)])) 1 rfl ?_
    obtain rfl := inj hD
    exact ax_Wp.ret rfl kk
def C42 (X : Nat × (Nat → Int32)) (m : dM) (i : Int32) : Option (dM ⊕ dM) := (D112 m).bind fun (x1 : Int32) => (D226 m).bind fun (r2 : Int32 × dM) => if x1 = r2.1 then some (.inl r2.2) else some (.inr r2.2)
set_option maxRecDepth 20000 in
theorem c_42 {X : Nat × (Nat → Int32)} {d : Nat} {Q : ax_O → ax_H → Prop} {m : dM} {i : Int32} {v : dM ⊕ dM} (hD : C42 X m i = some v) (kk : lwK X d Q i v) : ax_Wp X (d + 11 + 1) 283 (2239, [some (.retAddr 0), some (.ref 0), some (.ref 130), some (.ref 138), some (.int i), none, none, none, none], []) (stt m) Q := by
  unfold C42 at hD
  refine ax_Wp.go (f' := (2240, [some (.retAddr 0), some (.ref 0), some (.ref 130), some (.ref 138), some (.int i), none, none, none, none], [.ref 0])) 1 rfl ?_
  refine bnd hD (fun x1 hx hD => ?_)
  refine ax_Wp.callE (f' := (2243, [some (.retAddr 0), some (.ref 0), some (.ref 130), some (.ref 138), some (.int i), none, none, none, none], [])) rfl rfl (w_112 (d := d + 8) hx) rfl ?_
  refine ax_Wp.go (f' := (2244, [some (.retAddr 0), some (.ref 0), some (.ref 130), some (.ref 138), some (.int i), none, none, none, none], [.ref 130, .int x1])) 1 rfl ?_
  refine bnd hD (fun r2 hx hD => ?_)
  refine ax_Wp.callE (f' := (2247, [some (.retAddr 0), some (.ref 0), some (.ref 130), some (.ref 138), some (.int i), none, none, none, none], [.int x1])) rfl rfl (w_226 (d := d + 6) hx) rfl ?_
  refine ax_Wp.brD hD rfl (fun _ hD => ?_) (fun _ hD => ?_)
  · obtain rfl := inj hD
    exact kk
  · refine ax_Wp.go (f' := (2251, [some (.retAddr 0), some (.ref 0), some (.ref 130), some (.ref 138), some (.int i), none, none, none, none], [.int (nI 0)])) 1 rfl ?_
    obtain rfl := inj hD
    exact ax_Wp.ret rfl kk
def C43 (X : Nat × (Nat → Int32)) (m : dM) (i : Int32) : Option (dM ⊕ dM) := (gX X (i + (nI 1))).bind fun (x1 : Int32) => (D276 m x1).bind fun (r2 : Int32 × dM) => (gX X (i + (nI 1))).bind fun (x3 : Int32) => (D229 r2.2 x3).bind fun (r4 : Int32 × dM) => (D142 r4.2).bind fun (x5 : Int32) => if x5 = r2.1 then if r2.1 = (nI 0) then (gL r4.2 138 1 (nI 0)).bind fun (x6 : Int64) => if (lg_cmp x6 r4.1.toInt64) = (nI 0) then some (.inl r4.2) else some (.inr r4.2) else some (.inl r4.2) else some (.inr r4.2)
set_option maxRecDepth 20000 in
theorem c_43 {X : Nat × (Nat → Int32)} {d : Nat} {Q : ax_O → ax_H → Prop} {m : dM} {i : Int32} {v : dM ⊕ dM} (hD : C43 X m i = some v) (kk : lwK X d Q i v) : ax_Wp X (d + 11 + 1) 283 (2252, [some (.retAddr 0), some (.ref 0), some (.ref 130), some (.ref 138), some (.int i), none, none, none, none], []) (stt m) Q := by
  unfold C43 at hD
  refine ax_Wp.go (f' := (2258, [some (.retAddr 0), some (.ref 0), some (.ref 130), some (.ref 138), some (.int i), none, none, none, none], [.int (i + (nI 1)), .retAddr 0, .ref 0])) 5 rfl ?_
  refine ax_Wp.rdX hD rfl (fun x1 hD => ?_)
  refine ax_Wp.go (f' := (2260, [some (.retAddr 0), some (.ref 0), some (.ref 130), some (.ref 138), some (.int i), none, none, none, none], [.ref 138, .int x1, .ref 0])) 1 rfl ?_
  refine bnd hD (fun r2 hx hD => ?_)
  refine ax_Wp.callE (f' := (2263, [some (.retAddr 0), some (.ref 0), some (.ref 130), some (.ref 138), some (.int i), none, none, none, none], [])) rfl rfl (w_276 (d := d + 3) hx) rfl ?_
  refine ax_Wp.go (f' := (2271, [some (.retAddr 0), some (.ref 0), some (.ref 130), some (.ref 138), some (.int i), some (.int r2.1), none, none, none], [.int (i + (nI 1)), .retAddr 0, .ref 130])) 6 rfl ?_
  refine ax_Wp.rdX hD rfl (fun x3 hD => ?_)
  refine bnd hD (fun r4 hx hD => ?_)
  refine ax_Wp.callE (f' := (2275, [some (.retAddr 0), some (.ref 0), some (.ref 130), some (.ref 138), some (.int i), some (.int r2.1), none, none, none], [])) rfl rfl (w_229 (d := d + 7) hx) rfl ?_
  refine ax_Wp.go (f' := (2278, [some (.retAddr 0), some (.ref 0), some (.ref 130), some (.ref 138), some (.int i), some (.int r2.1), some (.int r4.1), none, none], [.ref 130])) 2 rfl ?_
  refine bnd hD (fun x5 hx hD => ?_)
  refine ax_Wp.callE (f' := (2281, [some (.retAddr 0), some (.ref 0), some (.ref 130), some (.ref 138), some (.int i), some (.int r2.1), some (.int r4.1), none, none], [])) rfl rfl (w_142 (d := d + 10) hx) rfl ?_
  refine ax_Wp.go (f' := (2283, [some (.retAddr 0), some (.ref 0), some (.ref 130), some (.ref 138), some (.int i), some (.int r2.1), some (.int r4.1), none, none], [.int r2.1, .int x5])) 1 rfl ?_
  refine ax_Wp.brD hD rfl (fun _ hD => ?_) (fun _ hD => ?_)
  · refine ax_Wp.go (f' := (2290, [some (.retAddr 0), some (.ref 0), some (.ref 130), some (.ref 138), some (.int i), some (.int r2.1), some (.int r4.1), none, none], [.int r2.1])) 1 rfl ?_
    refine ax_Wp.brD hD rfl (fun _ hD => ?_) (fun _ hD => ?_)
    · refine ax_Wp.go (f' := (2295, [some (.retAddr 0), some (.ref 0), some (.ref 130), some (.ref 138), some (.int i), some (.int r2.1), some (.int r4.1), none, none], [.int (nI 0), .ref 138])) 2 rfl ?_
      refine ax_Wp.rdL hD rfl rfl rfl (fun x6 hD => ?_)
      refine ax_Wp.go (f' := (2300, [some (.retAddr 0), some (.ref 0), some (.ref 130), some (.ref 138), some (.int i), some (.int r2.1), some (.int r4.1), none, none], [.int (lg_cmp x6 r4.1.toInt64)])) 3 rfl ?_
      refine ax_Wp.brD hD rfl (fun _ hD => ?_) (fun _ hD => ?_)
      · refine ax_Wp.go (f' := (2778, [some (.retAddr 0), some (.ref 0), some (.ref 130), some (.ref 138), some (.int i), some (.int r2.1), some (.int r4.1), none, none], [])) 1 rfl ?_
        obtain rfl := inj hD
        exact ax_Wp.dead kk ⟨.inl rfl, ⟨.inl rfl, ⟨.inl rfl, ⟨.inl rfl, ⟨.inl rfl, ⟨.inr ⟨rfl, trivial⟩, ⟨.inr ⟨rfl, trivial⟩, ⟨.inl rfl, ⟨.inl rfl, trivial⟩⟩⟩⟩⟩⟩⟩⟩⟩
      · refine ax_Wp.go (f' := (2304, [some (.retAddr 0), some (.ref 0), some (.ref 130), some (.ref 138), some (.int i), some (.int r2.1), some (.int r4.1), none, none], [.int (nI 0)])) 1 rfl ?_
        obtain rfl := inj hD
        exact ax_Wp.ret rfl kk
    · refine ax_Wp.go (f' := (2778, [some (.retAddr 0), some (.ref 0), some (.ref 130), some (.ref 138), some (.int i), some (.int r2.1), some (.int r4.1), none, none], [])) 1 rfl ?_
      obtain rfl := inj hD
      exact ax_Wp.dead kk ⟨.inl rfl, ⟨.inl rfl, ⟨.inl rfl, ⟨.inl rfl, ⟨.inl rfl, ⟨.inr ⟨rfl, trivial⟩, ⟨.inr ⟨rfl, trivial⟩, ⟨.inl rfl, ⟨.inl rfl, trivial⟩⟩⟩⟩⟩⟩⟩⟩⟩
  · refine ax_Wp.go (f' := (2287, [some (.retAddr 0), some (.ref 0), some (.ref 130), some (.ref 138), some (.int i), some (.int r2.1), some (.int r4.1), none, none], [.int (nI 0)])) 1 rfl ?_
    obtain rfl := inj hD
    exact ax_Wp.ret rfl kk
