/-! LOOKS at reaching and foretelling -/
section L3
variable {m : dM} {s : gS} {X : Nat × (Nat → Int32)} {i : Nat}
theorem mqs {m1 m' : dM} (c : chg (fun b => b = 137) (wI m1 130 7 (nI 0)) m') : mdq m1 m' := (mdq.w7 mdq.rf).tr (mdq.of c)
theorem k43 (h : INV m) (hi : i + 4 < X.1) (hX : X.1 ≤ 2560) : OK m (C43 X m (nI i)) := by
  unfold C43
  simp only [gx (i := i) (j := 1) (by omega) hX, Option.bind_some]
  refine lkI (A := D276 m (X.2 (i + 1))) (B := fun m1 => D229 m1 (X.2 (i + 1))) h (fun s hC hM => ?_)
  generalize X.2 (i + 1) = p1
  have R := hC.R
  have V := hC.V
  rcases sm_or (n := 4) (by omega) p1 with ⟨c, hc, rfl⟩ | hb
  · obtain ⟨y, ey, hy⟩ := d66 R V (vsm V hc) (aV_lt V.2.1 hc)
    refine ⟨s, 0, _, _, w_I (x := y) ?_, co_v hC chv.rf rfl, fun m1 hM1 => ?_⟩
    · show D113 m (nI c) = _
      unfold D113
      rw [d124 hc]
      show Option.bind (gI m 6 4 (nI c)) _ = _
      rw [gI_n hc (by omega), R.at hc, aV_e V.2.1 hc, d3 R V hc]
      show Option.bind (D66 m (nI (aV s.1 c)) (s.1 (97 + 5 * c + 1))) _ = _
      rw [ey]
      rfl
    · have hf1 : rI (wI m1 130 7 (nI 0)) 131 = s.1 := hM1.f7
      obtain ⟨x, m', e, c1, hx, -⟩ := d228 hf1 V hc
      have exy : x = y := mk.eq hx hy
      subst exy
      refine ⟨(x, m'), ?_, mo_v hM1 (mqs c1) (mdq.t c1)⟩
      show D229 m1 (nI c) = _
      unfold D229
      show Option.bind (D146 (nI c)) _ = _
      rw [d146 hc]
      show Option.bind (Option.bind (D228 (wI m1 130 7 (nI 0)) (nI c)) _) _ = _
      rw [e]
      rfl
  · refine ⟨s, 1, 0, (nI 1, bump m), ?_, co_x hC chv.rf rfl (by omega) (by omega), fun m1 hM1 => ⟨(nI 0, wI (wI m1 130 7 (nI 0)) 130 7 (nI 1)), ?_, mo_x hM1 (by omega) t_x r7⟩⟩
    · refine w_X (j := 0) ?_
      show D113 m p1 = _
      unfold D113
      rw [d124b hb]
      rfl
    · show D229 m1 p1 = _
      unfold D229
      show Option.bind (D146 p1) _ = _
      rw [d146b hb]
      rfl
theorem k44 (h : INV m) (hi : i + 4 < X.1) (hX : X.1 ≤ 2560) : OK m (C44 X m (nI i)) := by
  unfold C44
  simp only [gx (i := i) (j := 1) (by omega) hX, Option.bind_some]
  refine lkI (A := D277 m (X.2 (i + 1))) (B := fun m1 => D230 m1 (X.2 (i + 1))) h (fun s hC hM => ?_)
  generalize X.2 (i + 1) = p1
  have R := hC.R
  have V := hC.V
  rcases sm_or (n := 4) (by omega) p1 with ⟨c, hc, rfl⟩ | hb
  · obtain ⟨y, m2, ey, c2, hy⟩ := d67 R V (vsm V hc) (aV_lt V.2.1 hc)
    refine ⟨s, 0, _, _, g_I (x := y) (m1 := m2) ?_, co_v (hC.th (c2.mono (fun b q => .inr q))) (c2.v.mono (fun b q => by unfold cC; omega)) c2.2.2.2, fun m1 hM1 => ?_⟩
    · show D114 m (nI c) = _
      unfold D114
      rw [d124 hc]
      show Option.bind (gI m 6 4 (nI c)) _ = _
      rw [gI_n hc (by omega), R.at hc, aV_e V.2.1 hc, d3 R V hc]
      show Option.bind (D67 m (nI (aV s.1 c)) (s.1 (97 + 5 * c + 1))) _ = _
      rw [ey]
      rfl
    · have hf1 : rI (wI m1 130 7 (nI 0)) 131 = s.1 := hM1.f7
      obtain ⟨x, m', e, c1, hx, -⟩ := d228 hf1 V hc
      have exy : x = y := mk.eq hx hy
      subst exy
      refine ⟨(x, m'), ?_, mo_v hM1 (mqs c1) (mdq.t c1)⟩
      show D230 m1 (nI c) = _
      unfold D230
      show Option.bind (D146 (nI c)) _ = _
      rw [d146 hc]
      show Option.bind (Option.bind (D228 (wI m1 130 7 (nI 0)) (nI c)) _) _ = _
      rw [e]
      rfl
  · refine ⟨s, 1, 0, (nI 1, bump m), ?_, co_x hC chv.rf rfl (by omega) (by omega), fun m1 hM1 => ⟨(nI 0, wI (wI m1 130 7 (nI 0)) 130 7 (nI 1)), ?_, mo_x hM1 (by omega) t_x r7⟩⟩
    · refine g_X (j := 0) (m1 := bump m) ?_
      show D114 m p1 = _
      unfold D114
      rw [d124b hb]
      rfl
    · show D230 m1 p1 = _
      unfold D230
      show Option.bind (D146 p1) _ = _
      rw [d146b hb]
      rfl
/-- two indices, of which one may be none -/
theorem two_or {n : Nat} (hn : n ≤ 100000) (p q : Int32) : (∃ c b, c < 4 ∧ b < n ∧ p = nI c ∧ q = nI b) ∨ bad p 4 ∨ (∃ c, c < 4 ∧ p = nI c ∧ bad q n) := by
  rcases sm_or (n := 4) (by omega) p with ⟨c, hc, e⟩ | h
  · rcases sm_or hn q with ⟨b, hb, e2⟩ | h2
    · exact .inl ⟨c, b, hc, hb, e, e2⟩
    · exact .inr (.inr ⟨c, hc, e, h2⟩)
  · exact .inr (.inl h)
theorem k45 (h : INV m) (hi : i + 4 < X.1) (hX : X.1 ≤ 2560) : OK m (C45 X m (nI i)) := by
  unfold C45
  simp only [gx (i := i) (j := 1) (by omega) hX, gx (i := i) (j := 2) (by omega) hX, Option.bind_some]
  refine lkI (A := D278 m (X.2 (i + 1)) (X.2 (i + 2))) (B := fun m1 => D232 m1 (X.2 (i + 1)) (X.2 (i + 2))) h (fun s hC hM => ?_)
  generalize X.2 (i + 1) = p1
  generalize X.2 (i + 2) = p2
  have R := hC.R
  have V := hC.V
  rcases two_or (n := 10) (by omega) p1 p2 with ⟨c, b, hc, hb, rfl, rfl⟩ | hb | ⟨c, hc, rfl, hb⟩
  · refine ⟨s, 0, _, _, w_I (x := wy s.1 (s.1 (97 + 5 * c + 1)) (aV s.1 c) b) ?_, co_v hC chv.rf rfl, fun m1 hM1 => ?_⟩
    · show D115 m (nI c) (nI b) = _
      unfold D115
      rw [d124 hc, d123 hb]
      show Option.bind (D53 m (nI c) (nI b)) _ = _
      rw [d53 R V hc hb]
      rfl
    · have hf1 : rI (wI m1 130 7 (nI 0)) 131 = s.1 := hM1.f7
      obtain ⟨m', e, c1⟩ := d231w hf1 V hc (aV_lt V.2.1 hc) hb
      refine ⟨(wy s.1 (s.1 (97 + 5 * c + 1)) (aV s.1 c) b, m'), ?_, mo_v hM1 (mqs c1) (mdq.t c1)⟩
      show D232 m1 (nI c) (nI b) = _
      unfold D232
      show Option.bind (D146 (nI c)) _ = _
      rw [d146 hc, d145 hb]
      show Option.bind (Option.bind (D150 (wI m1 130 7 (nI 0)) (nI c) (nI 0)) _) _ = _
      rw [d150 hf1 hc (by omega), aV_e V.2.1 hc]
      show Option.bind (Option.bind (D231 (wI m1 130 7 (nI 0)) (nI c) (nI (aV s.1 c)) (nI b)) _) _ = _
      rw [e]
      rfl
  · refine ⟨s, 1, 0, (nI 1, bump m), ?_, co_x hC chv.rf rfl (by omega) (by omega), fun m1 hM1 => ⟨(nI 0, wI (wI m1 130 7 (nI 0)) 130 7 (nI 1)), ?_, mo_x hM1 (by omega) t_x r7⟩⟩
    · refine w_X (j := 0) ?_
      show D115 m p1 p2 = _
      unfold D115
      rw [d124b hb]
      rfl
    · show D232 m1 p1 p2 = _
      unfold D232
      show Option.bind (D146 p1) _ = _
      rw [d146b hb]
      rfl
  · refine ⟨s, 1, 0, (nI 1, bump m), ?_, co_x hC chv.rf rfl (by omega) (by omega), fun m1 hM1 => ⟨(nI 0, wI (wI m1 130 7 (nI 0)) 130 7 (nI 1)), ?_, mo_x hM1 (by omega) t_x r7⟩⟩
    · refine w_X (j := 0) ?_
      show D115 m (nI c) p2 = _
      unfold D115
      rw [d124 hc, d123b hb]
      rfl
    · show D232 m1 (nI c) p2 = _
      unfold D232
      show Option.bind (D146 (nI c)) _ = _
      rw [d146 hc, d145b hb]
      rfl
theorem wy_1 {f : Nat → Int32} {v : Int32} {a j : Nat} : (nI 0 < wy f v a j) ↔ (nI 1 ≤ wy f v a j) := by
  rcases wy_or f v a j with e | ⟨k, hk, e⟩
  · rw [e]
    decide
  · rw [e, nI_ltI (by omega) (by omega), nI_leI (by omega) (by omega)]
    omega
theorem k46 (h : INV m) (hi : i + 4 < X.1) (hX : X.1 ≤ 2560) : OK m (C46 X m (nI i)) := by
  unfold C46
  simp only [gx (i := i) (j := 1) (by omega) hX, gx (i := i) (j := 2) (by omega) hX, Option.bind_some]
  refine lkI (A := D279 m (X.2 (i + 1)) (X.2 (i + 2))) (B := fun m1 => D233 m1 (X.2 (i + 1)) (X.2 (i + 2))) h (fun s hC hM => ?_)
  generalize X.2 (i + 1) = p1
  generalize X.2 (i + 2) = p2
  have R := hC.R
  have V := hC.V
  rcases two_or (n := 10) (by omega) p1 p2 with ⟨c, b, hc, hb, rfl, rfl⟩ | hb | ⟨c, hc, rfl, hb⟩
  · have hcl : D116 m (nI c) (nI b) = if nI 0 < wy s.1 (s.1 (97 + 5 * c + 1)) (aV s.1 c) b then (D54 m (nI c) (nI b) (wy s.1 (s.1 (97 + 5 * c + 1)) (aV s.1 c) b)).bind (fun (x8 : Int32) => some (.inl x8)) else some (.inr 2) := by
      unfold D116
      rw [d124 hc, d123 hb]
      show Option.bind (D53 m (nI c) (nI b)) _ = _
      rw [d53 R V hc hb]
      rfl
    by_cases q : nI 0 < wy s.1 (s.1 (97 + 5 * c + 1)) (aV s.1 c) b
    · obtain ⟨x, ex, hx⟩ := d54 R V hc hb (w := wy s.1 (s.1 (97 + 5 * c + 1)) (aV s.1 c) b)
      rw [if_pos q, ex] at hcl
      refine ⟨s, 0, _, _, w_I (x := x) hcl, co_v hC chv.rf rfl, fun m1 hM1 => ?_⟩
      obtain ⟨y, m', e, c1, ⟨q1, q2, q3⟩ | ⟨q1, -⟩⟩ := d233 hM1.e1 V hc hb
      · have exy := FS_uniq q3 hx
        subst exy
        exact ⟨(y, m'), e, mo_v hM1 c1 q2⟩
      · exact absurd (wy_1.mp q) q1
    · rw [if_neg q] at hcl
      refine ⟨s, 2, 0, (nI 2, bump m), w_X hcl, co_x hC chv.rf rfl (by omega) (by omega), fun m1 hM1 => ?_⟩
      obtain ⟨y, m', e, c1, ⟨q1, -⟩ | ⟨q1, q2⟩⟩ := d233 hM1.e1 V hc hb
      · exact absurd (wy_1.mpr q1) q
      · exact ⟨(y, m'), e, mo_x hM1 (by omega) c1 q2⟩
  · refine ⟨s, 1, 0, (nI 1, bump m), ?_, co_x hC chv.rf rfl (by omega) (by omega), fun m1 hM1 => ⟨_, d233b (.inl hb), mo_x hM1 (by omega) t_x r7⟩⟩
    refine w_X (j := 0) ?_
    show D116 m p1 p2 = _
    unfold D116
    rw [d124b hb]
    rfl
  · refine ⟨s, 1, 0, (nI 1, bump m), ?_, co_x hC chv.rf rfl (by omega) (by omega), fun m1 hM1 => ⟨_, d233b (.inr ⟨sm_nI hc, hb⟩), mo_x hM1 (by omega) t_x r7⟩⟩
    refine w_X (j := 0) ?_
    show D116 m (nI c) p2 = _
    unfold D116
    rw [d124 hc, d123b hb]
    rfl
theorem k47 (h : INV m) (hi : i + 4 < X.1) (hX : X.1 ≤ 2560) : OK m (C47 X m (nI i)) := by
  unfold C47
  simp only [gx (i := i) (j := 1) (by omega) hX, Option.bind_some]
  refine lkI (A := D280 m (X.2 (i + 1))) (B := fun m1 => D234 m1 (X.2 (i + 1))) h (fun s hC hM => ?_)
  generalize X.2 (i + 1) = p1
  have R := hC.R
  have V := hC.V
  rcases sm_or (n := 4) (by omega) p1 with ⟨c, hc, rfl⟩ | hb
  · have hcl : D117 m (nI c) = if (bp s.1 c (pN s.1)).1 = -1 then some (.inr 2) else some (.inl (bp s.1 c (pN s.1)).1) := by
      unfold D117
      rw [d124 hc]
      show Option.bind (D55 m (nI c)) _ = _
      rw [d55 R V hc]
      rfl
    by_cases q : (bp s.1 c (pN s.1)).1 = -1
    · rw [if_pos q] at hcl
      refine ⟨s, 2, 0, (nI 2, bump m), w_X hcl, co_x hC chv.rf rfl (by omega) (by omega), fun m1 hM1 => ?_⟩
      obtain ⟨y, m', e, c1, ⟨q1, -⟩ | ⟨q1, q2⟩⟩ := d234 hM1.e1 V hc
      · exact absurd q q1
      · exact ⟨(y, m'), e, mo_x hM1 (by omega) c1 q2⟩
    · rw [if_neg q] at hcl
      refine ⟨s, 0, _, _, w_I hcl, co_v hC chv.rf rfl, fun m1 hM1 => ?_⟩
      obtain ⟨y, m', e, c1, ⟨q1, q2, rfl⟩ | ⟨q1, -⟩⟩ := d234 hM1.e1 V hc
      · exact ⟨_, e, mo_v hM1 c1 q2⟩
      · exact absurd q1 q
  · refine ⟨s, 1, 0, (nI 1, bump m), ?_, co_x hC chv.rf rfl (by omega) (by omega), fun m1 hM1 => ⟨_, d234b hb, mo_x hM1 (by omega) t_x r7⟩⟩
    refine w_X (j := 0) ?_
    show D117 m p1 = _
    unfold D117
    rw [d124b hb]
    rfl
theorem k48 (h : INV m) (hi : i + 4 < X.1) (hX : X.1 ≤ 2560) : OK m (C48 X m (nI i)) := by
  unfold C48
  simp only [gx (i := i) (j := 1) (by omega) hX, gx (i := i) (j := 2) (by omega) hX, Option.bind_some]
  refine lkI (A := D281 m (X.2 (i + 1)) (X.2 (i + 2))) (B := fun m1 => D235 m1 (X.2 (i + 1)) (X.2 (i + 2))) h (fun s hC hM => ?_)
  generalize X.2 (i + 1) = p1
  generalize X.2 (i + 2) = p2
  have R := hC.R
  have V := hC.V
  have h24 := V.s24
  rcases two_or (n := sN s.1) (by omega) p1 p2 with ⟨c, b, hc, hb, rfl, rfl⟩ | hb | ⟨c, hc, rfl, hb⟩
  · refine ⟨s, 0, _, _, w_I (x := nI (why s.1 c b)) ?_, co_v hC chv.rf rfl, fun m1 hM1 => ?_⟩
    · show D118 m (nI c) (nI b) = _
      unfold D118
      rw [d124 hc, d126 R V hb]
      show Option.bind (D51 m (nI c) (nI b)) _ = _
      rw [d51 R V hc hb]
      rfl
    · have hf1 : rI (wI m1 130 7 (nI 0)) 131 = s.1 := hM1.f7
      refine ⟨(nI (why s.1 c b), wI m1 130 7 (nI 0)), ?_, mo_v hM1 t_v r7⟩
      show D235 m1 (nI c) (nI b) = _
      unfold D235
      show Option.bind (D146 (nI c)) _ = _
      rw [d146 hc]
      show Option.bind (Option.bind (D147 (wI m1 130 7 (nI 0)) (nI b)) _) _ = _
      rw [d147 hf1 V.s0 V.s24 hb]
      show Option.bind (Option.bind (D169 (wI m1 130 7 (nI 0)) (nI c) (nI b)) _) _ = _
      rw [d169 hf1 V hc hb]
      rfl
  · refine ⟨s, 1, 0, (nI 1, bump m), ?_, co_x hC chv.rf rfl (by omega) (by omega), fun m1 hM1 => ⟨(nI 0, wI (wI m1 130 7 (nI 0)) 130 7 (nI 1)), ?_, mo_x hM1 (by omega) t_x r7⟩⟩
    · refine w_X (j := 0) ?_
      show D118 m p1 p2 = _
      unfold D118
      rw [d124b hb]
      rfl
    · show D235 m1 p1 p2 = _
      unfold D235
      show Option.bind (D146 p1) _ = _
      rw [d146b hb]
      rfl
  · refine ⟨s, 1, 0, (nI 1, bump m), ?_, co_x hC chv.rf rfl (by omega) (by omega), fun m1 hM1 => ⟨(nI 0, wI (wI m1 130 7 (nI 0)) 130 7 (nI 1)), ?_, mo_x hM1 (by omega) t_x r7⟩⟩
    · refine w_X (j := 0) ?_
      show D118 m (nI c) p2 = _
      unfold D118
      rw [d124 hc, d126b R V hb]
      rfl
    · have hf1 : rI (wI m1 130 7 (nI 0)) 131 = s.1 := hM1.f7
      show D235 m1 (nI c) p2 = _
      unfold D235
      show Option.bind (D146 (nI c)) _ = _
      rw [d146 hc]
      show Option.bind (Option.bind (D147 (wI m1 130 7 (nI 0)) p2) _) _ = _
      rw [d147b hf1 V.s0 V.s24 hb]
      rfl
theorem mqf {m1 m' : dM} (c : chg (fun b => b = 135 ∨ b = 136) (wI m1 130 7 (nI 0)) m') : mdq m1 m' := by
  refine (mdq.w7 mdq.rf).tr ⟨c.mono (fun b e => by omega), ?_, ?_, ?_⟩
  · rw [c.1 130 (by omega)]
  · rw [c.1 130 (by omega)]
  · rw [c.1 130 (by omega)]
theorem k49 (h : INV m) (hi : i + 4 < X.1) (hX : X.1 ≤ 2560) : OK m (C49 X m (nI i)) := by
  unfold C49
  simp only [gx (i := i) (j := 1) (by omega) hX, Option.bind_some]
  refine lkI (A := D282 m (X.2 (i + 1))) (B := fun m1 => D236 m1 (X.2 (i + 1))) h (fun s hC hM => ?_)
  generalize X.2 (i + 1) = p1
  have R := hC.R
  have V := hC.V
  have hm : ∀ m1, IM m1 s → ∃ m', D172 (wI m1 130 7 (nI 0)) = some m' ∧ mdq m1 m' ∧ rI m' 130 7 = nI 0 ∧ ∀ b, b < 4 → rI m' 135 b = fin s.1 b := by
    intro m1 hM1
    obtain ⟨m', e, c1, h1⟩ := d172 (hM1.f7 (v := nI 0)) V
    refine ⟨m', e, mqf c1, ?_, h1⟩
    rw [c1.1 130 (by omega), r7]
  rcases sm_or (n := 4) (by omega) p1 with ⟨c, hc, rfl⟩ | hb
  · obtain ⟨m2, e2, c2, h2⟩ := d7 R V
    refine ⟨s, 0, _, _, g_I (x := fin s.1 c) (m1 := m2) ?_, co_v (hC.th (c2.mono (fun b q => .inl q))) (c2.v.mono (fun b q => by unfold cC; omega)) c2.2.2.2, fun m1 hM1 => ?_⟩
    · show D119 m (nI c) = _
      unfold D119
      rw [d124 hc]
      show Option.bind (D7 m) _ = _
      rw [e2]
      show Option.bind (gI m2 40 4 (nI c)) _ = _
      rw [gI_n hc (by omega), (h2 c hc).1]
      rfl
    · obtain ⟨m', e, q, q7, h1⟩ := hm m1 hM1
      refine ⟨(fin s.1 c, m'), ?_, mo_v hM1 q q7⟩
      show D236 m1 (nI c) = _
      unfold D236
      show Option.bind (D172 (wI m1 130 7 (nI 0))) _ = _
      rw [e]
      show Option.bind (D146 (nI c)) _ = _
      rw [d146 hc]
      show Option.bind (Option.bind (gI m' 135 4 (nI c)) _) _ = _
      rw [gI_n hc (by omega), h1 c hc]
      rfl
  · refine ⟨s, 1, 0, (nI 1, bump m), ?_, co_x hC chv.rf rfl (by omega) (by omega), fun m1 hM1 => ?_⟩
    · refine g_X (j := 0) (m1 := bump m) ?_
      show D119 m p1 = _
      unfold D119
      rw [d124b hb]
      rfl
    · obtain ⟨m', e, q, q7, h1⟩ := hm m1 hM1
      refine ⟨(nI 0, wI m' 130 7 (nI 1)), ?_, mo_x hM1 (by omega) q.w7 r7⟩
      show D236 m1 p1 = _
      unfold D236
      show Option.bind (D172 (wI m1 130 7 (nI 0))) _ = _
      rw [e]
      show Option.bind (D146 p1) _ = _
      rw [d146b hb]
      rfl
end L3
