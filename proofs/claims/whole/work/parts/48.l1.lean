/-! LOOKS, one by one -/
section L1
variable {m : dM} {s : gS} {X : Nat × (Nat → Int32)} {i : Nat}
theorem k21 (h : INV m) (hi : i + 4 < X.1) (hX : X.1 ≤ 2560) : OK m (C21 X m (nI i)) := by
  unfold C21
  simp only [gx (i := i) (j := 1) (by omega) hX, Option.bind_some]
  refine lkI (A := D260 m (X.2 (i + 1))) (B := fun m1 => D203 m1 (X.2 (i + 1))) h (fun s hC hM => ?_)
  generalize X.2 (i + 1) = p1
  have R := hC.R
  have V := hC.V
  have hn : sN s.1 ≤ 100000 := by have := V.s24; omega
  rcases sm_or hn p1 with ⟨c, hc, rfl⟩ | hb
  · refine ⟨s, 0, _, _, w_I (x := s.1 (1 + 4 * c)) ?_, co_v hC chv.rf rfl, fun m1 hM1 => ?_⟩
    · show D91 m (nI c) = _
      unfold D91
      have h24 := V.s24
      rw [d126 R V hc]
      show Option.bind (gI m 3 24 (nI c)) _ = _
      rw [gI_n (by omega) (by omega), R.fr (by omega)]
      rfl
    · have hf1 : rI (wI m1 130 7 (nI 0)) 131 = s.1 := hM1.f7
      have h24 := V.s24
      show ∃ r2, D203 m1 (nI c) = _ ∧ _
      unfold D203
      show ∃ r2, Option.bind (D147 (wI m1 130 7 (nI 0)) (nI c)) _ = _ ∧ _
      rw [d147 hf1 V.s0 V.s24 hc]
      show ∃ r2, Option.bind (Option.bind (D154 (wI m1 130 7 (nI 0)) (nI c)) _) _ = _ ∧ _
      rw [d154 hf1 (by omega)]
      exact ⟨_, rfl, mo_v hM1 t_v r7⟩
  · refine ⟨s, 1, 0, (nI 1, bump m), ?_, co_x hC chv.rf rfl (by omega) (by omega), fun m1 hM1 => ?_⟩
    · refine w_X (j := 0) ?_
      show D91 m p1 = _
      unfold D91
      rw [d126b R V hb]
      rfl
    · have hf1 : rI (wI m1 130 7 (nI 0)) 131 = s.1 := hM1.f7
      show ∃ r2, D203 m1 p1 = _ ∧ _
      unfold D203
      show ∃ r2, Option.bind (D147 (wI m1 130 7 (nI 0)) p1) _ = _ ∧ _
      rw [d147b hf1 V.s0 V.s24 hb]
      exact ⟨_, rfl, mo_x hM1 (by omega) t_x r7⟩
theorem k22 (h : INV m) (hi : i + 4 < X.1) (hX : X.1 ≤ 2560) : OK m (C22 X m (nI i)) := by
  unfold C22
  simp only [gx (i := i) (j := 1) (by omega) hX, Option.bind_some]
  refine lkI (A := D261 m (X.2 (i + 1))) (B := fun m1 => D204 m1 (X.2 (i + 1))) h (fun s hC hM => ?_)
  generalize X.2 (i + 1) = p1
  have R := hC.R
  have V := hC.V
  have hn : sN s.1 ≤ 100000 := by have := V.s24; omega
  rcases sm_or hn p1 with ⟨c, hc, rfl⟩ | hb
  · refine ⟨s, 0, _, _, w_I (x := s.1 (1 + 4 * c + 1)) ?_, co_v hC chv.rf rfl, fun m1 hM1 => ?_⟩
    · show D92 m (nI c) = _
      unfold D92
      have h24 := V.s24
      rw [d126 R V hc]
      show Option.bind (gI m 4 24 (nI c)) _ = _
      rw [gI_n (by omega) (by omega), R.to (by omega)]
      rfl
    · have hf1 : rI (wI m1 130 7 (nI 0)) 131 = s.1 := hM1.f7
      have h24 := V.s24
      show ∃ r2, D204 m1 (nI c) = _ ∧ _
      unfold D204
      show ∃ r2, Option.bind (D147 (wI m1 130 7 (nI 0)) (nI c)) _ = _ ∧ _
      rw [d147 hf1 V.s0 V.s24 hc]
      show ∃ r2, Option.bind (Option.bind (D155 (wI m1 130 7 (nI 0)) (nI c)) _) _ = _ ∧ _
      rw [d155 hf1 (by omega)]
      exact ⟨_, rfl, mo_v hM1 t_v r7⟩
  · refine ⟨s, 1, 0, (nI 1, bump m), ?_, co_x hC chv.rf rfl (by omega) (by omega), fun m1 hM1 => ?_⟩
    · refine w_X (j := 0) ?_
      show D92 m p1 = _
      unfold D92
      rw [d126b R V hb]
      rfl
    · have hf1 : rI (wI m1 130 7 (nI 0)) 131 = s.1 := hM1.f7
      show ∃ r2, D204 m1 p1 = _ ∧ _
      unfold D204
      show ∃ r2, Option.bind (D147 (wI m1 130 7 (nI 0)) p1) _ = _ ∧ _
      rw [d147b hf1 V.s0 V.s24 hb]
      exact ⟨_, rfl, mo_x hM1 (by omega) t_x r7⟩
theorem k24 (h : INV m) (hi : i + 4 < X.1) (hX : X.1 ≤ 2560) : OK m (C24 X m (nI i)) := by
  unfold C24
  simp only [gx (i := i) (j := 1) (by omega) hX, Option.bind_some]
  refine lkI (A := D263 m (X.2 (i + 1))) (B := fun m1 => D207 m1 (X.2 (i + 1))) h (fun s hC hM => ?_)
  generalize X.2 (i + 1) = p1
  have R := hC.R
  have V := hC.V
  have hn : 4 ≤ 100000 := by omega
  rcases sm_or hn p1 with ⟨c, hc, rfl⟩ | hb
  · refine ⟨s, 0, _, _, w_I (x := s.1 (97 + 5 * c + 0)) ?_, co_v hC chv.rf rfl, fun m1 hM1 => ?_⟩
    · show D94 m (nI c) = _
      unfold D94
      rw [d124 hc]
      show Option.bind (gI m 6 4 (nI c)) _ = _
      rw [gI_n (by omega) (by omega), R.at hc]
      rfl
    · have hf1 : rI (wI m1 130 7 (nI 0)) 131 = s.1 := hM1.f7
      show ∃ r2, D207 m1 (nI c) = _ ∧ _
      unfold D207 D206
      show ∃ r2, Option.bind (Option.bind (D146 (nI c)) _) _ = _ ∧ _
      rw [d146 hc]
      show ∃ r2, Option.bind (Option.bind (Option.bind (D150 (wI m1 130 7 (nI 0)) (nI c) (nI 0)) _) _) _ = _ ∧ _
      rw [d150 hf1 hc (by omega)]
      exact ⟨_, rfl, mo_v hM1 t_v r7⟩
  · refine ⟨s, 1, 0, (nI 1, bump m), ?_, co_x hC chv.rf rfl (by omega) (by omega), fun m1 hM1 => ?_⟩
    · refine w_X (j := 0) ?_
      show D94 m p1 = _
      unfold D94
      rw [d124b hb]
      rfl
    · have hf1 : rI (wI m1 130 7 (nI 0)) 131 = s.1 := hM1.f7
      show ∃ r2, D207 m1 p1 = _ ∧ _
      unfold D207 D206
      show ∃ r2, Option.bind (Option.bind (D146 p1) _) _ = _ ∧ _
      rw [d146b hb]
      exact ⟨_, rfl, mo_x hM1 (by omega) t_x r7⟩
theorem k29 (h : INV m) (hi : i + 4 < X.1) (hX : X.1 ≤ 2560) : OK m (C29 X m (nI i)) := by
  unfold C29
  simp only [gx (i := i) (j := 1) (by omega) hX, Option.bind_some]
  refine lkI (A := D268 m (X.2 (i + 1))) (B := fun m1 => D212 m1 (X.2 (i + 1))) h (fun s hC hM => ?_)
  generalize X.2 (i + 1) = p1
  have R := hC.R
  have V := hC.V
  have hn : 4 ≤ 100000 := by omega
  rcases sm_or hn p1 with ⟨c, hc, rfl⟩ | hb
  · refine ⟨s, 0, _, _, w_I (x := s.1 (97 + 5 * c + 3)) ?_, co_v hC chv.rf rfl, fun m1 hM1 => ?_⟩
    · show D99 m (nI c) = _
      unfold D99
      rw [d124 hc]
      show Option.bind (gI m 8 4 (nI c)) _ = _
      rw [gI_n (by omega) (by omega), R.mv hc]
      rfl
    · have hf1 : rI (wI m1 130 7 (nI 0)) 131 = s.1 := hM1.f7
      show ∃ r2, D212 m1 (nI c) = _ ∧ _
      unfold D212 D206
      show ∃ r2, Option.bind (Option.bind (D146 (nI c)) _) _ = _ ∧ _
      rw [d146 hc]
      show ∃ r2, Option.bind (Option.bind (Option.bind (D150 (wI m1 130 7 (nI 0)) (nI c) (nI 3)) _) _) _ = _ ∧ _
      rw [d150 hf1 hc (by omega)]
      exact ⟨_, rfl, mo_v hM1 t_v r7⟩
  · refine ⟨s, 1, 0, (nI 1, bump m), ?_, co_x hC chv.rf rfl (by omega) (by omega), fun m1 hM1 => ?_⟩
    · refine w_X (j := 0) ?_
      show D99 m p1 = _
      unfold D99
      rw [d124b hb]
      rfl
    · have hf1 : rI (wI m1 130 7 (nI 0)) 131 = s.1 := hM1.f7
      show ∃ r2, D212 m1 p1 = _ ∧ _
      unfold D212 D206
      show ∃ r2, Option.bind (Option.bind (D146 p1) _) _ = _ ∧ _
      rw [d146b hb]
      exact ⟨_, rfl, mo_x hM1 (by omega) t_x r7⟩
theorem k30 (h : INV m) (hi : i + 4 < X.1) (hX : X.1 ≤ 2560) : OK m (C30 X m (nI i)) := by
  unfold C30
  simp only [gx (i := i) (j := 1) (by omega) hX, Option.bind_some]
  refine lkI (A := D269 m (X.2 (i + 1))) (B := fun m1 => D213 m1 (X.2 (i + 1))) h (fun s hC hM => ?_)
  generalize X.2 (i + 1) = p1
  have R := hC.R
  have V := hC.V
  have hn : 4 ≤ 100000 := by omega
  rcases sm_or hn p1 with ⟨c, hc, rfl⟩ | hb
  · refine ⟨s, 0, _, _, w_I (x := s.1 (97 + 5 * c + 4)) ?_, co_v hC chv.rf rfl, fun m1 hM1 => ?_⟩
    · show D100 m (nI c) = _
      unfold D100
      rw [d124 hc]
      show Option.bind (gI m 9 4 (nI c)) _ = _
      rw [gI_n (by omega) (by omega), R.oc hc]
      rfl
    · have hf1 : rI (wI m1 130 7 (nI 0)) 131 = s.1 := hM1.f7
      show ∃ r2, D213 m1 (nI c) = _ ∧ _
      unfold D213 D206
      show ∃ r2, Option.bind (Option.bind (D146 (nI c)) _) _ = _ ∧ _
      rw [d146 hc]
      show ∃ r2, Option.bind (Option.bind (Option.bind (D150 (wI m1 130 7 (nI 0)) (nI c) (nI 4)) _) _) _ = _ ∧ _
      rw [d150 hf1 hc (by omega)]
      exact ⟨_, rfl, mo_v hM1 t_v r7⟩
  · refine ⟨s, 1, 0, (nI 1, bump m), ?_, co_x hC chv.rf rfl (by omega) (by omega), fun m1 hM1 => ?_⟩
    · refine w_X (j := 0) ?_
      show D100 m p1 = _
      unfold D100
      rw [d124b hb]
      rfl
    · have hf1 : rI (wI m1 130 7 (nI 0)) 131 = s.1 := hM1.f7
      show ∃ r2, D213 m1 p1 = _ ∧ _
      unfold D213 D206
      show ∃ r2, Option.bind (Option.bind (D146 p1) _) _ = _ ∧ _
      rw [d146b hb]
      exact ⟨_, rfl, mo_x hM1 (by omega) t_x r7⟩
theorem k26 (h : INV m) (hi : i + 4 < X.1) (hX : X.1 ≤ 2560) : OK m (C26 X m (nI i)) := by
  unfold C26
  simp only [gx (i := i) (j := 1) (by omega) hX, Option.bind_some]
  refine lkI (A := D265 m (X.2 (i + 1))) (B := fun m1 => D209 m1 (X.2 (i + 1))) h (fun s hC hM => ?_)
  generalize X.2 (i + 1) = p1
  have R := hC.R
  have V := hC.V
  have hn : 4 ≤ 100000 := by omega
  rcases sm_or hn p1 with ⟨c, hc, rfl⟩ | hb
  · refine ⟨s, 0, _, _, w_I (x := ld s.1 (nI c) (pN s.1)) ?_, co_v hC chv.rf rfl, fun m1 hM1 => ?_⟩
    · show D96 m (nI c) = _
      unfold D96
      rw [d124 hc]
      show Option.bind (D34 m (nI c)) _ = _
      rw [d34 R V hc]
      rfl
    · have hf1 : rI (wI m1 130 7 (nI 0)) 131 = s.1 := hM1.f7
      show ∃ r2, D209 m1 (nI c) = _ ∧ _
      unfold D209
      show ∃ r2, Option.bind (D146 (nI c)) _ = _ ∧ _
      rw [d146 hc]
      show ∃ r2, Option.bind (Option.bind (D158 (wI m1 130 7 (nI 0)) (nI c)) _) _ = _ ∧ _
      rw [d158 hf1 V.p0 V.p8]
      exact ⟨_, rfl, mo_v hM1 t_v r7⟩
  · refine ⟨s, 1, 0, (nI 1, bump m), ?_, co_x hC chv.rf rfl (by omega) (by omega), fun m1 hM1 => ?_⟩
    · refine w_X (j := 0) ?_
      show D96 m p1 = _
      unfold D96
      rw [d124b hb]
      rfl
    · have hf1 : rI (wI m1 130 7 (nI 0)) 131 = s.1 := hM1.f7
      show ∃ r2, D209 m1 p1 = _ ∧ _
      unfold D209
      show ∃ r2, Option.bind (D146 p1) _ = _ ∧ _
      rw [d146b hb]
      exact ⟨_, rfl, mo_x hM1 (by omega) t_x r7⟩
theorem k35 (h : INV m) (hi : i + 4 < X.1) (hX : X.1 ≤ 2560) : OK m (C35 X m (nI i)) := by
  unfold C35
  simp only [gx (i := i) (j := 1) (by omega) hX, Option.bind_some]
  refine lkI (A := D273 m (X.2 (i + 1))) (B := fun m1 => D219 m1 (X.2 (i + 1))) h (fun s hC hM => ?_)
  generalize X.2 (i + 1) = p1
  have R := hC.R
  have V := hC.V
  have hn : pN s.1 ≤ 100000 := by have := V.p8; omega
  rcases sm_or hn p1 with ⟨c, hc, rfl⟩ | hb
  · refine ⟨s, 0, _, _, w_I (x := plc s.1 c) ?_, co_v hC chv.rf rfl, fun m1 hM1 => ?_⟩
    · show D105 m (nI c) = _
      unfold D105
      rw [d127 R V hc]
      show Option.bind (D46 m (nI c)) _ = _
      rw [d46 R V hc]
      rfl
    · have hf1 : rI (wI m1 130 7 (nI 0)) 131 = s.1 := hM1.f7
      show ∃ r2, D219 m1 (nI c) = _ ∧ _
      unfold D219
      show ∃ r2, Option.bind (D148 (wI m1 130 7 (nI 0)) (nI c)) _ = _ ∧ _
      rw [d148 hf1 V.p0 V.p8 hc]
      show ∃ r2, Option.bind (Option.bind (D218 (wI m1 130 7 (nI 0)) (nI c)) _) _ = _ ∧ _
      rw [d218 hf1 V hc]
      exact ⟨_, rfl, mo_v hM1 t_v r7⟩
  · refine ⟨s, 1, 0, (nI 1, bump m), ?_, co_x hC chv.rf rfl (by omega) (by omega), fun m1 hM1 => ?_⟩
    · refine w_X (j := 0) ?_
      show D105 m p1 = _
      unfold D105
      rw [d127b R V hb]
      rfl
    · have hf1 : rI (wI m1 130 7 (nI 0)) 131 = s.1 := hM1.f7
      show ∃ r2, D219 m1 p1 = _ ∧ _
      unfold D219
      show ∃ r2, Option.bind (D148 (wI m1 130 7 (nI 0)) p1) _ = _ ∧ _
      rw [d148b hf1 V.p0 V.p8 hb]
      exact ⟨_, rfl, mo_x hM1 (by omega) t_x r7⟩
end L1
