/-! LOOKS, one by one, on -/
section L2
variable {m : dM} {s : gS} {X : Nat × (Nat → Int32)} {i : Nat}
theorem q206 (hM : IM m s) {c w : Nat} (hc : c < 4) (hw : w < 5) : D206 m (nI c) (nI w) = some (s.1 (97 + 5 * c + w), wI m 130 7 (nI 0)) := by
  have hf1 : rI (wI m 130 7 (nI 0)) 131 = s.1 := hM.f7
  unfold D206
  show Option.bind (D146 (nI c)) _ = _
  rw [d146 hc]
  show Option.bind (Option.bind (D150 (wI m 130 7 (nI 0)) (nI c) (nI w)) _) _ = _
  rw [d150 hf1 hc hw]
  rfl
theorem q206b {p w : Int32} (hb : bad p 4) : D206 m p w = some (nI 0, wI (wI m 130 7 (nI 0)) 130 7 (nI 1)) := by
  unfold D206
  show Option.bind (D146 p) _ = _
  rw [d146b hb]
  rfl
theorem k23 (h : INV m) (hi : i + 4 < X.1) (hX : X.1 ≤ 2560) : OK m (C23 X m (nI i)) := by
  unfold C23
  simp only [gx (i := i) (j := 1) (by omega) hX, Option.bind_some]
  refine lkB (A := D262 m (X.2 (i + 1))) (B := fun m1 => D205 m1 (X.2 (i + 1))) h (fun s hC hM => ?_)
  generalize X.2 (i + 1) = p1
  have R := hC.R
  have V := hC.V
  have h24 := V.s24
  have h8 := V.p8
  rcases sm_or (n := sN s.1) (by omega) p1 with ⟨c, hc, rfl⟩ | hb
  · refine ⟨s, 0, _, _, w_B (x := (if s.1 (1 + 4 * c + 3) = nI 1 then nI 1 else nI 0)) ?_, co_v hC chv.rf rfl, fun m1 hM1 => ⟨((if s.1 (1 + 4 * c + 3) = nI 1 then nI 1 else nI 0), wI m1 130 7 (nI 0)), ?_, mb_v hM1 t_v r7⟩⟩
    · show D93 m (nI c) = _
      unfold D93
      rw [d126 R V hc]
      show Option.bind (D62 m (nI c)) _ = _
      rw [d62 R (by omega)]
      show Option.bind (gB (if s.1 (1 + 4 * c + 3) = nI 1 then nI 1 else nI 0)) _ = _
      rw [gB_i]
      rfl
    · have hf1 : rI (wI m1 130 7 (nI 0)) 131 = s.1 := hM1.f7
      show D205 m1 (nI c) = _
      unfold D205
      rw [d147 hM1.e1 V.s0 V.s24 hc]
      show Option.bind (if rI (wI m1 130 7 (nI 0)) 130 7 = nI 0 then Option.bind (D157 (wI m1 130 7 (nI 0)) (nI c)) _ else _) _ = _
      rw [r7, if_pos rfl, d157 hf1 (by omega)]
      show Option.bind (if (if s.1 (1 + 4 * c + 3) = nI 1 then nI 1 else nI 0) = nI 0 then some (nI 0) else some (nI 1)) _ = _
      by_cases q : s.1 (1 + 4 * c + 3) = nI 1
      · simp only [q, if_true, n10, if_false]
        rfl
      · simp only [q, if_true, n10, if_false]
        rfl
  · refine ⟨s, 1, 0, (nI 1, bump m), ?_, co_x hC chv.rf rfl (by omega) (by omega), fun m1 hM1 => ⟨(nI 0, wI m1 130 7 (nI 1)), ?_, mb_x hM1 (by omega) t_v r7⟩⟩
    · refine w_X (j := 0) ?_
      show D93 m p1 = _
      unfold D93
      rw [d126b R V hb]
      rfl
    · show D205 m1 p1 = _
      unfold D205
      rw [d147b hM1.e1 V.s0 V.s24 hb]
      rfl
theorem k32 (h : INV m) (hi : i + 4 < X.1) (hX : X.1 ≤ 2560) : OK m (C32 X m (nI i)) := by
  unfold C32
  simp only [gx (i := i) (j := 1) (by omega) hX, Option.bind_some]
  refine lkB (A := D270 m (X.2 (i + 1))) (B := fun m1 => D215 m1 (X.2 (i + 1))) h (fun s hC hM => ?_)
  generalize X.2 (i + 1) = p1
  have R := hC.R
  have V := hC.V
  have h24 := V.s24
  have h8 := V.p8
  rcases sm_or (n := pN s.1) (by omega) p1 with ⟨c, hc, rfl⟩ | hb
  · refine ⟨s, 0, _, _, w_B (x := (if s.1 (118 + 6 * c + 4) = nI 0 then nI 1 else nI 0)) ?_, co_v hC chv.rf rfl, fun m1 hM1 => ⟨((if s.1 (118 + 6 * c + 4) = nI 0 then nI 1 else nI 0), wI m1 130 7 (nI 0)), ?_, mb_v hM1 t_v r7⟩⟩
    · show D102 m (nI c) = _
      unfold D102
      rw [d127 R V hc]
      show Option.bind (D31 m (nI c)) _ = _
      rw [d31 R V hc]
      show Option.bind (gB (if s.1 (118 + 6 * c + 4) = nI 0 then nI 1 else nI 0)) _ = _
      rw [gB_i]
      rfl
    · have hf1 : rI (wI m1 130 7 (nI 0)) 131 = s.1 := hM1.f7
      show D215 m1 (nI c) = _
      unfold D215
      rw [d148 hM1.e1 V.p0 V.p8 hc]
      show Option.bind (if rI (wI m1 130 7 (nI 0)) 130 7 = nI 0 then Option.bind (D152 (wI m1 130 7 (nI 0)) (nI c) (nI 4)) _ else _) _ = _
      rw [r7, if_pos rfl, d152 hf1 (by omega) (by omega)]
      show Option.bind (if s.1 (118 + 6 * c + 4) = nI 0 then some (nI 1) else some (nI 0)) _ = _
      by_cases q : s.1 (118 + 6 * c + 4) = nI 0
      · simp only [q, if_true, n10, if_false]
        rfl
      · simp only [q, if_true, n10, if_false]
        rfl
  · refine ⟨s, 1, 0, (nI 1, bump m), ?_, co_x hC chv.rf rfl (by omega) (by omega), fun m1 hM1 => ⟨(nI 0, wI m1 130 7 (nI 1)), ?_, mb_x hM1 (by omega) t_v r7⟩⟩
    · refine w_X (j := 0) ?_
      show D102 m p1 = _
      unfold D102
      rw [d127b R V hb]
      rfl
    · show D215 m1 p1 = _
      unfold D215
      rw [d148b hM1.e1 V.p0 V.p8 hb]
      rfl
theorem k33 (h : INV m) (hi : i + 4 < X.1) (hX : X.1 ≤ 2560) : OK m (C33 X m (nI i)) := by
  unfold C33
  simp only [gx (i := i) (j := 1) (by omega) hX, Option.bind_some]
  refine lkB (A := D271 m (X.2 (i + 1))) (B := fun m1 => D216 m1 (X.2 (i + 1))) h (fun s hC hM => ?_)
  generalize X.2 (i + 1) = p1
  have R := hC.R
  have V := hC.V
  have h24 := V.s24
  have h8 := V.p8
  rcases sm_or (n := pN s.1) (by omega) p1 with ⟨c, hc, rfl⟩ | hb
  · refine ⟨s, 0, _, _, w_B (x := (if s.1 (118 + 6 * c + 4) = nI 2 then nI 1 else nI 0)) ?_, co_v hC chv.rf rfl, fun m1 hM1 => ⟨((if s.1 (118 + 6 * c + 4) = nI 2 then nI 1 else nI 0), wI m1 130 7 (nI 0)), ?_, mb_v hM1 t_v r7⟩⟩
    · show D103 m (nI c) = _
      unfold D103
      rw [d127 R V hc]
      show Option.bind (D32 m (nI c)) _ = _
      rw [d32 R V hc]
      show Option.bind (gB (if s.1 (118 + 6 * c + 4) = nI 2 then nI 1 else nI 0)) _ = _
      rw [gB_i]
      rfl
    · have hf1 : rI (wI m1 130 7 (nI 0)) 131 = s.1 := hM1.f7
      show D216 m1 (nI c) = _
      unfold D216
      rw [d148 hM1.e1 V.p0 V.p8 hc]
      show Option.bind (if rI (wI m1 130 7 (nI 0)) 130 7 = nI 0 then Option.bind (D152 (wI m1 130 7 (nI 0)) (nI c) (nI 4)) _ else _) _ = _
      rw [r7, if_pos rfl, d152 hf1 (by omega) (by omega)]
      show Option.bind (if s.1 (118 + 6 * c + 4) = nI 2 then some (nI 1) else some (nI 0)) _ = _
      by_cases q : s.1 (118 + 6 * c + 4) = nI 2
      · simp only [q, if_true, n10, if_false]
        rfl
      · simp only [q, if_true, n10, if_false]
        rfl
  · refine ⟨s, 1, 0, (nI 1, bump m), ?_, co_x hC chv.rf rfl (by omega) (by omega), fun m1 hM1 => ⟨(nI 0, wI m1 130 7 (nI 1)), ?_, mb_x hM1 (by omega) t_v r7⟩⟩
    · refine w_X (j := 0) ?_
      show D103 m p1 = _
      unfold D103
      rw [d127b R V hb]
      rfl
    · show D216 m1 p1 = _
      unfold D216
      rw [d148b hM1.e1 V.p0 V.p8 hb]
      rfl
theorem k25 (h : INV m) (hi : i + 4 < X.1) (hX : X.1 ≤ 2560) : OK m (C25 X m (nI i)) := by
  unfold C25
  simp only [gx (i := i) (j := 1) (by omega) hX, Option.bind_some]
  refine lkB (A := D264 m (X.2 (i + 1))) (B := fun m1 => D208 m1 (X.2 (i + 1))) h (fun s hC hM => ?_)
  generalize X.2 (i + 1) = p1
  have R := hC.R
  have V := hC.V
  have h24 := V.s24
  have h8 := V.p8
  rcases sm_or (n := 4) (by omega) p1 with ⟨c, hc, rfl⟩ | hb
  · refine ⟨s, 0, _, _, w_B (x := s.1 (97 + 5 * c + 1)) ?_, co_v hC chv.rf rfl, fun m1 hM1 => ⟨(s.1 (97 + 5 * c + 1), wI m1 130 7 (nI 0)), ?_, mb_v hM1 t_v r7⟩⟩
    · show D95 m (nI c) = _
      unfold D95
      rw [d124 hc]
      show Option.bind (D3 m (nI c)) _ = _
      rw [d3 R V hc]
      show Option.bind (gB (s.1 (97 + 5 * c + 1))) _ = _
      rw [gB_sm (vsm V hc)]
      rfl
    · have hf1 : rI (wI m1 130 7 (nI 0)) 131 = s.1 := hM1.f7
      show D208 m1 (nI c) = _
      unfold D208
      rw [q206 hM1 hc (by omega)]
      show Option.bind (if s.1 (97 + 5 * c + 1) = nI 1 then some (nI 1) else some (nI 0)) _ = _
      rw [iff_some, van2 V hc]
      show Option.bind (gB (s.1 (97 + 5 * c + 1))) _ = _
      rw [gB_sm (vsm V hc)]
      rfl
  · refine ⟨s, 1, 0, (nI 1, bump m), ?_, co_x hC chv.rf rfl (by omega) (by omega), fun m1 hM1 => ⟨(nI 0, wI (wI m1 130 7 (nI 0)) 130 7 (nI 1)), ?_, mb_x hM1 (by omega) t_x r7⟩⟩
    · refine w_X (j := 0) ?_
      show D95 m p1 = _
      unfold D95
      rw [d124b hb]
      rfl
    · show D208 m1 p1 = _
      unfold D208
      rw [q206b hb]
      rfl
theorem k27 (h : INV m) (hi : i + 4 < X.1) (hX : X.1 ≤ 2560) : OK m (C27 X m (nI i)) := by
  unfold C27
  simp only [gx (i := i) (j := 1) (by omega) hX, Option.bind_some]
  refine lkB (A := D266 m (X.2 (i + 1))) (B := fun m1 => D210 m1 (X.2 (i + 1))) h (fun s hC hM => ?_)
  generalize X.2 (i + 1) = p1
  have R := hC.R
  have V := hC.V
  have h24 := V.s24
  have h8 := V.p8
  rcases sm_or (n := 4) (by omega) p1 with ⟨c, hc, rfl⟩ | hb
  · refine ⟨s, 0, _, _, w_B (x := if s.1 (97 + 5 * c + 2) = -1 then nI 0 else nI 1) ?_, co_v hC chv.rf rfl, fun m1 hM1 => ⟨(if s.1 (97 + 5 * c + 2) = -1 then nI 0 else nI 1, wI m1 130 7 (nI 0)), ?_, mb_v hM1 t_v r7⟩⟩
    · show D97 m (nI c) = _
      unfold D97
      rw [d124 hc]
      show Option.bind (gI m 7 4 (nI c)) _ = _
      rw [gI_n hc (by omega), R.od hc]
      show Option.bind (if s.1 (97 + 5 * c + 2) = -1 then some (nI 0) else some (nI 1)) _ = _
      by_cases q : s.1 (97 + 5 * c + 2) = -1
      · rw [if_pos q, if_pos q]
        rfl
      · rw [if_neg q, if_neg q]
        rfl
    · have hf1 : rI (wI m1 130 7 (nI 0)) 131 = s.1 := hM1.f7
      show D210 m1 (nI c) = _
      unfold D210
      rw [q206 hM1 hc (by omega)]
      show Option.bind (if rI (wI m1 130 7 (nI 0)) 130 7 = nI 0 then (if s.1 (97 + 5 * c + 2) = -1 then some (nI 0) else some (nI 1)) else _) _ = _
      rw [r7, if_pos rfl]
      by_cases q : s.1 (97 + 5 * c + 2) = -1
      · rw [if_pos q, if_pos q]
        rfl
      · rw [if_neg q, if_neg q]
        rfl
  · refine ⟨s, 1, 0, (nI 1, bump m), ?_, co_x hC chv.rf rfl (by omega) (by omega), fun m1 hM1 => ⟨(nI 0, wI (wI m1 130 7 (nI 0)) 130 7 (nI 1)), ?_, mb_x hM1 (by omega) t_x r7⟩⟩
    · refine w_X (j := 0) ?_
      show D97 m p1 = _
      unfold D97
      rw [d124b hb]
      rfl
    · show D210 m1 p1 = _
      unfold D210
      rw [q206b hb]
      rfl
theorem k28 (h : INV m) (hi : i + 4 < X.1) (hX : X.1 ≤ 2560) : OK m (C28 X m (nI i)) := by
  unfold C28
  simp only [gx (i := i) (j := 1) (by omega) hX, Option.bind_some]
  refine lkI (A := D267 m (X.2 (i + 1))) (B := fun m1 => D211 m1 (X.2 (i + 1))) h (fun s hC hM => ?_)
  generalize X.2 (i + 1) = p1
  have R := hC.R
  have V := hC.V
  have h24 := V.s24
  have h8 := V.p8
  rcases sm_or (n := 4) (by omega) p1 with ⟨c, hc, rfl⟩ | hb
  · have hm : ∀ m1, IM m1 s → D206 m1 (nI c) (nI 2) = some (s.1 (97 + 5 * c + 2), wI m1 130 7 (nI 0)) := fun m1 hM1 => q206 hM1 hc (by omega)
    have hcl : D98 m (nI c) = if s.1 (97 + 5 * c + 2) = -1 then some (.inr 2) else some (.inl (s.1 (97 + 5 * c + 2))) := by
      unfold D98
      rw [d124 hc]
      show Option.bind (gI m 7 4 (nI c)) _ = _
      rw [gI_n hc (by omega), R.od hc]
      rfl
    by_cases q : s.1 (97 + 5 * c + 2) = -1
    · rw [if_pos q] at hcl
      refine ⟨s, 2, 0, (nI 2, bump m), w_X hcl, co_x hC chv.rf rfl (by omega) (by omega), fun m1 hM1 => ⟨(nI 0, wI (wI m1 130 7 (nI 0)) 130 7 (nI 2)), ?_, mo_x hM1 (by omega) t_x r7⟩⟩
      show D211 m1 (nI c) = _
      unfold D211
      rw [hm m1 hM1]
      show Option.bind (if s.1 (97 + 5 * c + 2) = -1 then _ else _) _ = _
      rw [if_pos q]
      rfl
    · rw [if_neg q] at hcl
      refine ⟨s, 0, _, _, w_I hcl, co_v hC chv.rf rfl, fun m1 hM1 => ⟨(s.1 (97 + 5 * c + 2), wI m1 130 7 (nI 0)), ?_, mo_v hM1 t_v r7⟩⟩
      show D211 m1 (nI c) = _
      unfold D211
      rw [hm m1 hM1]
      show Option.bind (if s.1 (97 + 5 * c + 2) = -1 then _ else _) _ = _
      rw [if_neg q]
      rfl
  · refine ⟨s, 1, 0, (nI 1, bump m), ?_, co_x hC chv.rf rfl (by omega) (by omega), fun m1 hM1 => ⟨(nI 0, wI (wI m1 130 7 (nI 0)) 130 7 (nI 1)), ?_, mo_x hM1 (by omega) t_x r7⟩⟩
    · refine w_X (j := 0) ?_
      show D98 m p1 = _
      unfold D98
      rw [d124b hb]
      rfl
    · show D211 m1 p1 = _
      unfold D211
      rw [q206b hb]
      rfl
theorem k34 (h : INV m) (hi : i + 4 < X.1) (hX : X.1 ≤ 2560) : OK m (C34 X m (nI i)) := by
  unfold C34
  simp only [gx (i := i) (j := 1) (by omega) hX, Option.bind_some]
  refine lkI (A := D272 m (X.2 (i + 1))) (B := fun m1 => D217 m1 (X.2 (i + 1))) h (fun s hC hM => ?_)
  generalize X.2 (i + 1) = p1
  have R := hC.R
  have V := hC.V
  have h24 := V.s24
  have h8 := V.p8
  rcases sm_or (n := pN s.1) (by omega) p1 with ⟨c, hc, rfl⟩ | hb
  · have hcl : D104 m (nI c) = if s.1 (118 + 6 * c + 4) = nI 0 then some (.inr 2) else some (.inl (s.1 (118 + 6 * c + 5))) := by
      unfold D104
      rw [d127 R V hc]
      show Option.bind (D31 m (nI c)) _ = _
      rw [d31 R V hc]
      show (if (if s.1 (118 + 6 * c + 4) = nI 0 then nI 1 else nI 0) = nI 0 then Option.bind (D33 m (nI c)) _ else _) = _
      rw [d33 R V hc]
      by_cases q : s.1 (118 + 6 * c + 4) = nI 0
      · simp only [q, if_true, n10, if_false]
      · simp only [q, if_true, n10, if_false, Option.bind_some]
    have hm : ∀ m1, IM m1 s → D217 m1 (nI c) = if s.1 (118 + 6 * c + 4) = nI 0 then some (nI 0, wI (wI m1 130 7 (nI 0)) 130 7 (nI 2)) else some (s.1 (118 + 6 * c + 5), wI m1 130 7 (nI 0)) := by
      intro m1 hM1
      have hf1 : rI (wI m1 130 7 (nI 0)) 131 = s.1 := hM1.f7
      unfold D217
      show Option.bind (D148 (wI m1 130 7 (nI 0)) (nI c)) _ = _
      rw [d148 hf1 V.p0 V.p8 hc]
      show Option.bind (Option.bind (D152 (wI m1 130 7 (nI 0)) (nI c) (nI 4)) _) _ = _
      rw [d152 hf1 (by omega) (by omega)]
      show Option.bind (if s.1 (118 + 6 * c + 4) = nI 0 then _ else Option.bind (D152 (wI m1 130 7 (nI 0)) (nI c) (nI 5)) _) _ = _
      rw [d152 hf1 (by omega) (by omega)]
      by_cases q : s.1 (118 + 6 * c + 4) = nI 0
      · rw [if_pos q, if_pos q]
        rfl
      · rw [if_neg q, if_neg q]
        rfl
    by_cases q : s.1 (118 + 6 * c + 4) = nI 0
    · rw [if_pos q] at hcl
      simp only [q, if_true] at hm
      exact ⟨s, 2, 0, (nI 2, bump m), w_X hcl, co_x hC chv.rf rfl (by omega) (by omega), fun m1 hM1 => ⟨_, hm m1 hM1, mo_x hM1 (by omega) t_x r7⟩⟩
    · rw [if_neg q] at hcl
      simp only [q, if_false] at hm
      exact ⟨s, 0, _, _, w_I hcl, co_v hC chv.rf rfl, fun m1 hM1 => ⟨_, hm m1 hM1, mo_v hM1 t_v r7⟩⟩
  · refine ⟨s, 1, 0, (nI 1, bump m), ?_, co_x hC chv.rf rfl (by omega) (by omega), fun m1 hM1 => ⟨(nI 0, wI (wI m1 130 7 (nI 0)) 130 7 (nI 1)), ?_, mo_x hM1 (by omega) t_x r7⟩⟩
    · refine w_X (j := 0) ?_
      show D104 m p1 = _
      unfold D104
      rw [d127b R V hb]
      rfl
    · have hf1 : rI (wI m1 130 7 (nI 0)) 131 = s.1 := hM1.f7
      show D217 m1 p1 = _
      unfold D217
      show Option.bind (D148 (wI m1 130 7 (nI 0)) p1) _ = _
      rw [d148b hf1 V.p0 V.p8 hb]
      rfl
theorem k36 (h : INV m) (hi : i + 4 < X.1) (hX : X.1 ≤ 2560) : OK m (C36 X m (nI i)) := by
  unfold C36
  simp only [gx (i := i) (j := 1) (by omega) hX, Option.bind_some]
  refine lkI (A := D274 m (X.2 (i + 1))) (B := fun m1 => D220 m1 (X.2 (i + 1))) h (fun s hC hM => ?_)
  generalize X.2 (i + 1) = p1
  have R := hC.R
  have V := hC.V
  have h24 := V.s24
  have h8 := V.p8
  rcases sm_or (n := 2) (by omega) p1 with ⟨c, hc, rfl⟩ | hb
  · have hp := V.2.2.2.2.2.2.2.2 c hc
    refine ⟨s, 0, _, _, w_I (x := s.1 (170 + c)) ?_, co_v hC chv.rf rfl, fun m1 hM1 => ⟨(s.1 (170 + c), wI m1 130 7 (nI 0)), ?_, mo_v hM1 t_v r7⟩⟩
    · show D106 m (nI c) = _
      unfold D106
      rw [d125 hc]
      show Option.bind (gI m 17 2 (nI c)) _ = _
      rw [gI_n hc (by omega), R.pt hc]
      rfl
    · have hf1 : rI (wI m1 130 7 (nI 0)) 131 = s.1 := hM1.f7
      show D220 m1 (nI c) = _
      unfold D220
      rw [in_ok (by omega) (by omega) (by omega)]
      show Option.bind (Option.bind (gI (wI m1 130 7 (nI 0)) 131 299 (nI 170 + nI c)) _) _ = _
      rw [nI_add, gI_n (by omega) (by omega), hf1]
      rfl
  · refine ⟨s, 1, 0, (nI 1, bump m), ?_, co_x hC chv.rf rfl (by omega) (by omega), fun m1 hM1 => ⟨(nI 0, wI (wI m1 130 7 (nI 0)) 130 7 (nI 1)), ?_, mo_x hM1 (by omega) t_x r7⟩⟩
    · refine w_X (j := 0) ?_
      show D106 m p1 = _
      unfold D106
      rw [d125b hb]
      rfl
    · show D220 m1 p1 = _
      unfold D220
      rw [in_bad hb (by omega)]
      rfl
theorem k37 (h : INV m) (hi : i + 4 < X.1) (hX : X.1 ≤ 2560) : OK m (C37 X m (nI i)) := by
  unfold C37
  simp only [gx (i := i) (j := 1) (by omega) hX, Option.bind_some]
  refine lkI (A := D275 m (X.2 (i + 1))) (B := fun m1 => D221 m1 (X.2 (i + 1))) h (fun s hC hM => ?_)
  generalize X.2 (i + 1) = p1
  have R := hC.R
  have V := hC.V
  have h24 := V.s24
  have h8 := V.p8
  rcases sm_or (n := 2) (by omega) p1 with ⟨c, hc, rfl⟩ | hb
  · have hp := V.2.2.2.2.2.2.2.2 c hc
    refine ⟨s, 0, _, _, w_I (x := vd s.1 c (pN s.1)) ?_, co_v hC chv.rf rfl, fun m1 hM1 => ⟨(vd s.1 c (pN s.1), wI m1 130 7 (nI 0)), ?_, mo_v hM1 t_v r7⟩⟩
    · show D107 m (nI c) = _
      unfold D107
      rw [d125 hc]
      show Option.bind (D36 m (nI c)) _ = _
      rw [d36 R V hc]
      rfl
    · have hf1 : rI (wI m1 130 7 (nI 0)) 131 = s.1 := hM1.f7
      show D221 m1 (nI c) = _
      unfold D221
      rw [in_ok (by omega) (by omega) (by omega)]
      show Option.bind (Option.bind (gI (wI m1 130 7 (nI 0)) 131 299 (nI 170 + nI c)) _) _ = _
      rw [nI_add, gI_n (by omega) (by omega), hf1, hp]
      rfl
  · refine ⟨s, 1, 0, (nI 1, bump m), ?_, co_x hC chv.rf rfl (by omega) (by omega), fun m1 hM1 => ⟨(nI 0, wI (wI m1 130 7 (nI 0)) 130 7 (nI 1)), ?_, mo_x hM1 (by omega) t_x r7⟩⟩
    · refine w_X (j := 0) ?_
      show D107 m p1 = _
      unfold D107
      rw [d125b hb]
      rfl
    · show D221 m1 p1 = _
      unfold D221
      rw [in_bad hb (by omega)]
      rfl
theorem k20 (h : INV m) : OK m (C20 X m (nI i)) := by
  unfold C20
  refine lk0 h (fun s hC hM => ?_)
  have R := hC.R
  have V := hC.V
  have hf1 : rI (wI m 130 7 (nI 0)) 131 = s.1 := hM.f7
  refine ⟨s.1 0, wI m 130 7 (nI 0), ?_, ?_, t_v⟩
  · unfold D90
    rw [R.sc]
  · unfold D202
    show some (rI (wI m 130 7 (nI 0)) 131 0, wI m 130 7 (nI 0)) = _
    rw [hf1]
theorem k31 (h : INV m) : OK m (C31 X m (nI i)) := by
  unfold C31
  refine lk0 h (fun s hC hM => ?_)
  have R := hC.R
  have V := hC.V
  have hf1 : rI (wI m 130 7 (nI 0)) 131 = s.1 := hM.f7
  refine ⟨s.1 117, wI m 130 7 (nI 0), ?_, ?_, t_v⟩
  · unfold D101
    rw [R.pc]
  · unfold D214
    show some (rI (wI m 130 7 (nI 0)) 131 117, wI m 130 7 (nI 0)) = _
    rw [hf1]
theorem k38 (h : INV m) : OK m (C38 X m (nI i)) := by
  unfold C38
  refine lk0 h (fun s hC hM => ?_)
  have R := hC.R
  have V := hC.V
  have hf1 : rI (wI m 130 7 (nI 0)) 131 = s.1 := hM.f7
  refine ⟨s.1 168, wI m 130 7 (nI 0), ?_, ?_, t_v⟩
  · unfold D108
    rw [R.tn]
  · unfold D222
    show some (rI (wI m 130 7 (nI 0)) 131 168, wI m 130 7 (nI 0)) = _
    rw [hf1]
theorem k39 (h : INV m) : OK m (C39 X m (nI i)) := by
  unfold C39
  refine lk0 h (fun s hC hM => ?_)
  have R := hC.R
  have V := hC.V
  have hf1 : rI (wI m 130 7 (nI 0)) 131 = s.1 := hM.f7
  refine ⟨s.1 169, wI m 130 7 (nI 0), ?_, ?_, t_v⟩
  · unfold D109
    rw [R.fl]
  · unfold D223
    show some (rI (wI m 130 7 (nI 0)) 131 169, wI m 130 7 (nI 0)) = _
    rw [hf1]
theorem k19 (h : INV m) : OK m (C19 X m (nI i)) := by
  unfold C19
  refine lk0 h (fun s hC hM => ?_)
  have R := hC.R
  have V := hC.V
  have hf1 : rI (wI m 130 7 (nI 0)) 131 = s.1 := hM.f7
  refine ⟨nI s.2.1, wI m 130 7 (nI 0), ?_, ?_, t_v⟩
  · unfold D89
    rw [hC.2.2.1.2.1]
  · unfold D201
    show some (rI (wI m 130 7 (nI 0)) 130 2, wI m 130 7 (nI 0)) = _
    rw [rI_ws, upd_n (by decide), hM.2.1.1]
theorem k40 (h : INV m) : OK m (C40 X m (nI i)) := by
  unfold C40
  refine lk0 h (fun s hC hM => ?_)
  have R := hC.R
  have V := hC.V
  have hf1 : rI (wI m 130 7 (nI 0)) 131 = s.1 := hM.f7
  refine ⟨nI (tmN s.1 (nI (f1 s.1)) (nI (f2 s.1))), wI m 130 7 (nI 0), ?_, ?_, t_v⟩
  · unfold D110
    rw [d42 R V]
    show Option.bind (D24 m (lN (fL1 s.1))) _ = _
    rw [d24 R V (nowN V)]
    rfl
  · unfold D224
    show Option.bind (D162 (wI m 130 7 (nI 0))) _ = _
    rw [d162 hf1 V.2.1 V.2.2.1, d163 hf1 V.2.2.1]
    show Option.bind (D166 (wI m 130 7 (nI 0)) (nI (f1 s.1)) (nI (f2 s.1))) _ = _
    rw [d166 hf1 V]
    rfl
theorem k41 (h : INV m) : OK m (C41 X m (nI i)) := by
  unfold C41
  refine lk0 h (fun s hC hM => ?_)
  have R := hC.R
  have V := hC.V
  have hf1 : rI (wI m 130 7 (nI 0)) 131 = s.1 := hM.f7
  refine ⟨nI (unR s.1 (tN s.1)), wI m 130 7 (nI 0), ?_, ?_, t_v⟩
  · unfold D111
    rw [d25 R V]
    rfl
  · unfold D225
    show Option.bind (D167 (wI m 130 7 (nI 0))) _ = _
    rw [d167 hf1 V]
    rfl
theorem k42 (h : INV m) : OK m (C42 X m (nI i)) := by
  unfold C42
  refine lk0 h (fun s hC hM => ?_)
  have R := hC.R
  have V := hC.V
  have hf1 : rI (wI m 130 7 (nI 0)) 131 = s.1 := hM.f7
  refine ⟨nI (ov s.1), wI m 130 7 (nI 0), ?_, ?_, t_v⟩
  · unfold D112
    rw [d44 R V]
    rfl
  · unfold D226
    show Option.bind (D168 (wI m 130 7 (nI 0))) _ = _
    rw [d168 hf1 V]
    rfl
theorem st_or {f : Nat → Int32} (V : rv f) : (f 172 = nI 1 ∧ ∃ p, p ≤ 60 ∧ f 173 = nI p ∧ (if f 172 = nI 1 then f 173 else -1) = nI p) ∨ (f 172 ≠ nI 1 ∧ (if f 172 = nI 1 then f 173 else -1) = -1) := by
  by_cases q : f 172 = nI 1
  · obtain ⟨p, h1, h2⟩ := V.2.2.2.2.2.2.2.1 q
    exact .inl ⟨q, p, h1, h2, by rw [if_pos q, h2]⟩
  · exact .inr ⟨q, if_neg q⟩
theorem k14 (h : INV m) : OK m (C14 X m (nI i)) := by
  unfold C14
  refine lk0 h (fun s hC hM => ?_)
  have R := hC.R
  have V := hC.V
  have hf1 : rI (wI m 130 7 (nI 0)) 131 = s.1 := hM.f7
  refine ⟨if s.1 172 = nI 1 then nI 1 else nI 0, wI m 130 7 (nI 0), ?_, ?_, t_v⟩
  · unfold D84
    rw [R.st]
    rcases st_or V with ⟨q, p, h1, h2, h3⟩ | ⟨q, h3⟩
    · rw [h3, if_neg (by rw [nI_m1 (by omega)]; exact id), if_pos q]
      rfl
    · rw [h3, if_pos rfl, if_neg q]
      rfl
  · unfold D196
    show Option.bind (if rI (wI m 130 7 (nI 0)) 131 172 = nI 1 then some (nI 1) else some (nI 0)) _ = _
    rw [hf1, iff_some]
    show Option.bind (gB (if s.1 172 = nI 1 then nI 1 else nI 0)) _ = _
    rw [gB_i]
    rfl
theorem k15 (h : INV m) (hi : i + 4 < X.1) (hX : X.1 ≤ 2560) : OK m (C15 X m (nI i)) := by
  unfold C15
  refine lkI (A := D257 m) (B := fun m1 => D197 m1) h (fun s hC hM => ?_)
  have R := hC.R
  have V := hC.V
  have h24 := V.s24
  have h8 := V.p8
  rcases st_or V with ⟨q, p, h1, h2, h3⟩ | ⟨q, h3⟩
  · refine ⟨s, 0, _, _, w_I (x := nI p) ?_, co_v hC chv.rf rfl, fun m1 hM1 => ⟨(nI p, wI m1 130 7 (nI 0)), ?_, mo_v hM1 t_v r7⟩⟩
    · show D85 m = _
      unfold D85
      rw [R.st, h3, if_neg (by rw [nI_m1 (by omega)]; exact id)]
    · have hf1 : rI (wI m1 130 7 (nI 0)) 131 = s.1 := hM1.f7
      show D197 m1 = _
      unfold D197
      show Option.bind (if rI (wI m1 130 7 (nI 0)) 131 172 = nI 1 then some (rI (wI m1 130 7 (nI 0)) 131 173, wI m1 130 7 (nI 0)) else _) _ = _
      rw [hf1, if_pos q, h2]
      rfl
  · refine ⟨s, 1, 0, (nI 1, bump m), ?_, co_x hC chv.rf rfl (by omega) (by omega), fun m1 hM1 => ⟨(nI 0, wI (wI m1 130 7 (nI 0)) 130 7 (nI 1)), ?_, mo_x hM1 (by omega) t_x r7⟩⟩
    · refine w_X (j := 2) ?_
      show D85 m = _
      unfold D85
      rw [R.st, h3, if_pos rfl]
    · have hf1 : rI (wI m1 130 7 (nI 0)) 131 = s.1 := hM1.f7
      show D197 m1 = _
      unfold D197
      show Option.bind (if rI (wI m1 130 7 (nI 0)) 131 172 = nI 1 then _ else _) _ = _
      rw [hf1, if_neg q]
      rfl
end L2
