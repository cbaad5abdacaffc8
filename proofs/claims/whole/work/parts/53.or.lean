/-! CHANGES: orders, turns, places, parcels -/
section OR
variable {m m1 m2 : dM} {s : gS} {f g : Nat → Int32} {X : Nat × (Nat → Int32)} {i : Nat}
theorem RC_ord (R : RC m 1 f) (V : rv f) {c : Nat} (hc : c < 4) {v : Int32} (c1 : chg (fun b => b = 7) m m1) (h7 : rI m1 7 = upd (rI m 7) c v) : RC m1 1 (upd f (97 + 5 * c + 2) v) := by
  refine R.mkc (c1.mono (fun b q => by omega)) (fun x q => upd_n (fun z => q (by omega))) (fun b hb => ?_) V
  show bt (rI m1 5 4) b = _ ∧ rI m1 6 b = _ ∧ rI m1 7 b = _ ∧ rI m1 8 b = _ ∧ rI m1 9 b = _
  rw [c1.1 5 (by omega), c1.1 6 (by omega), c1.1 8 (by omega), c1.1 9 (by omega), h7, upd_n (show 97 + 5 * b + 1 ≠ 97 + 5 * c + 2 by omega), upd_n (show 97 + 5 * b + 0 ≠ 97 + 5 * c + 2 by omega), upd_n (show 97 + 5 * b + 3 ≠ 97 + 5 * c + 2 by omega), upd_n (show 97 + 5 * b + 4 ≠ 97 + 5 * c + 2 by omega)]
  refine ⟨R.vb hb, R.at hb, ?_, R.mv hb, R.oc hb⟩
  by_cases e : b = c
  · subst e
    rw [upd_s, upd_s]
  · rw [upd_n e, upd_n (by omega)]
    exact R.od hb
theorem rv_ord (V : rv f) {c : Nat} (hc : c < 4) {v : Int32} (hv : v = -1 ∨ ∃ s, s < sN f ∧ v = nI s ∧ f (1 + 4 * s) = f (97 + 5 * c + 0) ∧ f (1 + 4 * s + 3) = nI 1) : rv (upd f (97 + 5 * c + 2) v) := by
  have h24 := V.s24
  have e : ∀ x, x ≠ 97 + 5 * c + 2 → upd f (97 + 5 * c + 2) v x = f x := fun x q => upd_n q
  refine ⟨V.1.cg (fun x q => e x (by omega)), ⟨fun b hb => ?_, fun b hb d hd hn => ?_⟩, V.2.2.1.cg (fun x q _ => e x (by omega)), V.2.2.2.cg V.p8 (fun x q _ _ _ => e x (by omega))⟩
  · rw [e (97 + 5 * b + 0) (by omega), e (97 + 5 * b + 1) (by omega), sN.cg (e 0 (by omega))]
    obtain ⟨q1, q2, q3⟩ := V.2.1.1 b hb
    refine ⟨q1, q2, ?_⟩
    by_cases w : b = c
    · subst w
      rw [upd_s]
      rcases hv with hv | ⟨s, z1, z2, z3, z4⟩
      · exact .inl hv
      · refine .inr ⟨s, z1, z2, ?_, ?_⟩
        · rw [e (1 + 4 * s) (by omega)]; exact z3
        · rw [e (1 + 4 * s + 3) (by omega)]; exact z4
    · rw [e (97 + 5 * b + 2) (by omega)]
      rcases q3 with hv | ⟨s, z1, z2, z3, z4⟩
      · exact .inl hv
      · refine .inr ⟨s, z1, z2, ?_, ?_⟩
        · rw [e (1 + 4 * s) (by omega)]; exact z3
        · rw [e (1 + 4 * s + 3) (by omega)]; exact z4
  · rw [e (97 + 5 * b + 0) (by omega), e (97 + 5 * d + 0) (by omega)]
    exact V.2.1.2 b hb d hd hn
theorem d4 {c : Nat} (hc : c < 4) : ∃ m', D4 m (nI c) = some (if rI m 7 c = -1 then nI 0 else nI 1, m') ∧ chg (fun b => b = 7) m m' ∧ rI m' 7 = upd (rI m 7) c (-1) := by
  unfold D4
  rw [d128 hc, gI_n hc (by omega)]
  show ∃ m', (if rI m 7 c = -1 then some (nI 0, m) else Option.bind (sI m 7 4 (nI c) (-1)) _) = _ ∧ _
  by_cases q : rI m 7 c = -1
  · rw [if_pos q, if_pos q]
    refine ⟨m, rfl, chg.rf, ?_⟩
    have := (upd_self (f := rI m 7) (x := c)).symm
    rw [q] at this
    exact this
  · rw [if_neg q, if_neg q, sI_n hc (by omega)]
    exact ⟨wI m 7 c (-1), rfl, chg.wI chg.rf rfl, rI_ws⟩
theorem why0 {c s' : Nat} (h : why f c s' = 0) : ov f = 0 ∧ f (1 + 4 * s') = f (97 + 5 * c + 0) ∧ f (1 + 4 * s' + 3) = nI 1 := by
  unfold why at h
  split at h
  · rename_i q1
    split at h
    · rename_i q2
      split at h
      · rename_i q3
        exact ⟨q1, q2, q3⟩
      · omega
    · omega
  · omega
theorem d50 (R : RC m 1 f) (V : rv f) {c b : Nat} (hc : c < 4) (hb : b < sN f) : D50 m (nI c) (nI b) = some (f (1 + 4 * b + 1), wI m 7 c (nI b)) := by
  have h24 := V.s24
  unfold D50
  rw [d128 hc, d59 R V hb]
  show Option.bind (sI m 7 4 (nI c) (nI b)) _ = _
  rw [sI_n hc (by omega)]
  show Option.bind (gI (wI m 7 c (nI b)) 4 24 (nI b)) _ = _
  rw [gI_n (by omega) (by omega), rI_wn (by decide), R.to (by omega)]
  rfl
theorem k7 (h : INV m) (hi : i + 4 < X.1) (hX : X.1 ≤ 2560) : OK m (C7 X m (nI i)) := by
  unfold C7
  simp only [gx (i := i) (j := 1) (by omega) hX, gx (i := i) (j := 2) (by omega) hX, Option.bind_some]
  refine lkI (A := D252 m (X.2 (i + 1)) (X.2 (i + 2))) (B := fun m1 => D185 m1 (X.2 (i + 1)) (X.2 (i + 2))) h (fun s hC hM => ?_)
  generalize X.2 (i + 1) = p1
  generalize X.2 (i + 2) = p2
  have R := hC.R
  have V := hC.V
  have h24 := V.s24
  rcases two_or (n := sN s.1) (by omega) p1 p2 with ⟨c, b, hc, hb, rfl, rfl⟩ | hb | ⟨c, hc, rfl, hb⟩
  · have hle := why_le (f := s.1) (c := c) (s := b)
    obtain ⟨m1, e1, I1, c1⟩ := hC.sv
    have hcl : D77 m (nI c) (nI b) = if nI (why s.1 c b) = nI 0 then some (.inl (s.1 (1 + 4 * b + 1)), wI m1 7 c (nI b)) else some (.inr 2, bump m) := by
      unfold D77
      rw [d124 hc, d126 R V hb]
      show Option.bind (D51 m (nI c) (nI b)) _ = _
      rw [d51 R V hc hb]
      show (if nI (why s.1 c b) = nI 0 then Option.bind (D131 m) _ else _) = _
      rw [e1]
      show (if nI (why s.1 c b) = nI 0 then Option.bind (D50 m1 (nI c) (nI b)) _ else _) = _
      rw [d50 I1.R V hc hb]
      rfl
    have hm : ∀ m2, IM m2 s → ∃ mB, D149 (wI m2 130 7 (nI 0)) = some mB ∧ D185 m2 (nI c) (nI b) = if nI (why s.1 c b) = nI 0 then some (s.1 (1 + 4 * b + 1), wI mB 131 (97 + 5 * c + 2) (nI b)) else some (nI 0, wI (wI m2 130 7 (nI 0)) 130 7 (nI 2)) := by
      intro m2 hM2
      have hf1 : rI (wI m2 130 7 (nI 0)) 131 = s.1 := hM2.f7
      obtain ⟨mB, eB, IB, cB, tB⟩ := (hM2.w7 (v := nI 0)).sv hC.n5
      refine ⟨mB, eB, ?_⟩
      unfold D185
      show Option.bind (D146 (nI c)) _ = _
      rw [d146 hc]
      show Option.bind (D147 (wI m2 130 7 (nI 0)) (nI b)) _ = _
      rw [d147 hf1 V.s0 V.s24 hb]
      show Option.bind (D169 (wI m2 130 7 (nI 0)) (nI c) (nI b)) _ = _
      rw [d169 hf1 V hc hb]
      show (if nI (why s.1 c b) = nI 0 then Option.bind (D149 (wI m2 130 7 (nI 0))) _ else _) = _
      rw [eB]
      show (if nI (why s.1 c b) = nI 0 then Option.bind (D151 mB (nI c) (nI 2) (nI b)) _ else _) = _
      rw [d151 hc (by omega)]
      show (if nI (why s.1 c b) = nI 0 then Option.bind (D155 (wI mB 131 (97 + 5 * c + 2) (nI b)) (nI b)) _ else _) = _
      rw [d155 rfl (by omega), rI_ws, upd_n (by omega), IB.e1]
      rfl
    by_cases q : why s.1 c b = 0
    · obtain ⟨q1, q2, q3⟩ := why0 q
      have q0 : nI (why s.1 c b) = nI 0 := by rw [q]
      rw [if_pos q0] at hcl
      have I2 := I1.nowc (m1 := wI m1 7 c (nI b)) (chg.wI chg.rf (.inl (by omega))) (RC_ord I1.R V hc (chg.wI chg.rf rfl) rI_ws) (rv_ord V hc (.inr ⟨b, hb, rfl, q2, q3⟩))
      refine ⟨_, 0, _, _, g_I hcl, co_n c1 (chg.wI chg.rf (.inl (by omega))) I2, fun m2 hM2 => ?_⟩
      obtain ⟨mB, eB, e⟩ := hm m2 hM2
      rw [if_pos q0] at e
      obtain ⟨mB', eB', IB, cB, tB⟩ := (hM2.w7 (v := nI 0)).sv hC.n5
      rw [eB] at eB'
      cases eB'
      exact ⟨_, e, mo_n rfl cB tB (chg.wI chg.rf (.inl rfl)) (IB.nw (chg.wI chg.rf (.inl rfl)) (by rw [rI_ws, IB.e1]))⟩
    · have q0 : ¬ nI (why s.1 c b) = nI 0 := fun z => q ((nI_eq (by omega) (by omega)).mp z)
      rw [if_neg q0] at hcl
      refine ⟨s, 2, 0, (nI 2, bump m), g_X (j := 2) (m1 := bump m) hcl, co_x hC chv.rf rfl (by omega) (by omega), fun m2 hM2 => ?_⟩
      obtain ⟨mB, eB, e⟩ := hm m2 hM2
      rw [if_neg q0] at e
      exact ⟨_, e, mo_x hM2 (by omega) t_x r7⟩
  · refine ⟨s, 1, 0, (nI 1, bump m), ?_, co_x hC chv.rf rfl (by omega) (by omega), fun m1 hM1 => ⟨(nI 0, wI (wI m1 130 7 (nI 0)) 130 7 (nI 1)), ?_, mo_x hM1 (by omega) t_x r7⟩⟩
    · refine g_X (j := 0) (m1 := bump m) ?_
      show D77 m p1 p2 = _
      unfold D77
      rw [d124b hb]
      rfl
    · show D185 m1 p1 p2 = _
      unfold D185
      show Option.bind (D146 p1) _ = _
      rw [d146b hb]
      rfl
  · refine ⟨s, 1, 0, (nI 1, bump m), ?_, co_x hC chv.rf rfl (by omega) (by omega), fun m1 hM1 => ⟨(nI 0, wI (wI m1 130 7 (nI 0)) 130 7 (nI 1)), ?_, mo_x hM1 (by omega) t_x r7⟩⟩
    · refine g_X (j := 0) (m1 := bump m) ?_
      show D77 m (nI c) p2 = _
      unfold D77
      rw [d124 hc, d126b R V hb]
      rfl
    · have hf1 : rI (wI m1 130 7 (nI 0)) 131 = s.1 := hM1.f7
      show D185 m1 (nI c) p2 = _
      unfold D185
      show Option.bind (D146 (nI c)) _ = _
      rw [d146 hc]
      show Option.bind (D147 (wI m1 130 7 (nI 0)) p2) _ = _
      rw [d147b hf1 V.s0 V.s24 hb]
      rfl
theorem gB_j {p : Prop} {dp : Decidable p} : gB (@ite _ p dp (nI 0) (nI 1)) = some (@ite _ p dp (nI 0) (nI 1)) := by
  by_cases h : p
  · rw [if_pos h]; rfl
  · rw [if_neg h]; rfl
theorem k8 (h : INV m) (hi : i + 4 < X.1) (hX : X.1 ≤ 2560) : OK m (C8 X m (nI i)) := by
  unfold C8
  simp only [gx (i := i) (j := 1) (by omega) hX, Option.bind_some]
  refine lkB (A := D253 m (X.2 (i + 1))) (B := fun m1 => D186 m1 (X.2 (i + 1))) h (fun s hC hM => ?_)
  generalize X.2 (i + 1) = p1
  have R := hC.R
  have V := hC.V
  rcases sm_or (n := 4) (by omega) p1 with ⟨c, hc, rfl⟩ | hb
  · obtain ⟨m1, e1, I1, c1⟩ := hC.sv
    obtain ⟨m2, e2, c2, h2⟩ := d4 (m := m1) hc
    rw [I1.R.od hc] at e2
    have I2 := I1.nowc (m1 := m2) (c2.mono (fun b q => .inl (by omega))) (RC_ord I1.R V hc c2 h2) (rv_ord V hc (.inl rfl))
    refine ⟨_, 0, _, _, g_B (x := if s.1 (97 + 5 * c + 2) = -1 then nI 0 else nI 1) (m1 := m2) ?_, co_n c1 (c2.mono (fun b q => .inl (by omega))) I2, fun m3 hM3 => ?_⟩
    · show D78 m (nI c) = _
      unfold D78
      rw [d124 hc]
      show Option.bind (D131 m) _ = _
      rw [e1]
      show Option.bind (D4 m1 (nI c)) _ = _
      rw [e2]
      show Option.bind (gB (if s.1 (97 + 5 * c + 2) = -1 then nI 0 else nI 1)) _ = _
      rw [gB_j]
      rfl
    · obtain ⟨mB, eB, IB, cB, tB⟩ := (hM3.w7 (v := nI 0)).sv hC.n5
      refine ⟨(if s.1 (97 + 5 * c + 2) = -1 then nI 0 else nI 1, wI mB 131 (97 + 5 * c + 2) (-1)), ?_, mb_n rfl cB tB (chg.wI chg.rf (.inl rfl)) (IB.nw (chg.wI chg.rf (.inl rfl)) (by rw [rI_ws, IB.e1]))⟩
      show D186 m3 (nI c) = _
      unfold D186
      rw [d146 hc]
      show (if rI (wI m3 130 7 (nI 0)) 130 7 ≤ nI 0 then Option.bind (D149 (wI m3 130 7 (nI 0))) _ else some (nI 0, wI m3 130 7 (nI 0))) = _
      rw [r7, if_pos (nI_le (Nat.le_refl 0) (by omega)), eB]
      show Option.bind (D150 mB (nI c) (nI 2)) _ = _
      rw [d150 IB.e1 hc (by omega)]
      show Option.bind (if s.1 (97 + 5 * c + 2) = -1 then some (nI 0) else some (nI 1)) _ = _
      rw [iff_some]
      show Option.bind (D151 mB (nI c) (nI 2) (-1)) _ = _
      rw [d151 hc (by omega)]
      show Option.bind (gB (if s.1 (97 + 5 * c + 2) = -1 then nI 0 else nI 1)) _ = _
      rw [gB_j]
      rfl
  · refine ⟨s, 1, 0, (nI 1, bump m), ?_, co_x hC chv.rf rfl (by omega) (by omega), fun m1 hM1 => ⟨(nI 0, wI m1 130 7 (nI 1)), ?_, mb_x hM1 (by omega) t_v r7⟩⟩
    · refine g_X (j := 0) (m1 := bump m) ?_
      show D78 m p1 = _
      unfold D78
      rw [d124b hb]
      rfl
    · show D186 m1 p1 = _
      unfold D186
      rw [d146b hb]
      rfl
theorem k9 (h : INV m) : OK m (C9 X m (nI i)) := by
  unfold C9
  refine lkI (A := D254 m) (B := fun m1 => D187 m1) h (fun s hC hM => ?_)
  have R := hC.R
  have V := hC.V
  have hov := ov_le (f := s.1)
  by_cases q : ov s.1 = 0
  · obtain ⟨m1, e1, I1, c1⟩ := hC.sv
    obtain ⟨m2, e2, c2, R2⟩ := d52 I1.R V q
    have V2 := TF_rv V q
    have hT : (svS s).1 = s.1 := rfl
    rw [hT] at e2 R2
    generalize hy : mvn s.1 4 = y at e2
    generalize hF : TF s.1 = F at R2 V2
    have I2 := I1.nowc (m1 := m2) (c2.mono (fun b q => q)) R2 V2
    refine ⟨_, 0, _, _, g_I (x := y) (m1 := m2) ?_, co_n c1 (c2.mono (fun b q => q)) I2, fun m3 hM3 => ?_⟩
    · unfold D79
      rw [d44 R V, q]
      show Option.bind (D131 m) _ = _
      rw [e1]
      show Option.bind (D52 m1) _ = _
      rw [e2]
      rfl
    · have hf1 : rI (wI m3 130 7 (nI 0)) 131 = s.1 := hM3.f7
      obtain ⟨mB, eB, IB, cB, tB⟩ := (hM3.w7 (v := nI 0)).sv hC.n5
      obtain ⟨mC, eC, cC, rC⟩ := d176 (f := s.1) IB.e1 V q
      rw [hy] at eC
      rw [hF] at rC
      have cC2 : chg rowM mB mC := cC.mono (fun b q => by unfold SU at q; unfold rowM; omega)
      refine ⟨(y, mC), ?_, mo_n rfl cB tB cC2 (IB.nw (cC2.mono (fun b q => q)) rC)⟩
      show D187 m3 = _
      unfold D187
      show Option.bind (D168 (wI m3 130 7 (nI 0))) _ = _
      rw [d168 hf1 V, q]
      show Option.bind (D149 (wI m3 130 7 (nI 0))) _ = _
      rw [eB]
      show Option.bind (D176 mB) _ = _
      rw [eC]
      rfl
  · have q0 : ¬ nI (ov s.1) = nI 0 := fun z => q ((nI_eq (by omega) (by omega)).mp z)
    refine ⟨s, 1, 0, (nI 1, bump m), ?_, co_x hC chv.rf rfl (by omega) (by omega), fun m1 hM1 => ⟨(nI 0, wI (wI m1 130 7 (nI 0)) 130 7 (nI 1)), ?_, mo_x hM1 (by omega) t_x r7⟩⟩
    · refine g_X (j := 2) (m1 := bump m) ?_
      unfold D79
      rw [d44 R V]
      show (if nI (ov s.1) = nI 0 then _ else _) = _
      rw [if_neg q0]
    · have hf1 : rI (wI m1 130 7 (nI 0)) 131 = s.1 := hM1.f7
      show D187 m1 = _
      unfold D187
      show Option.bind (D168 (wI m1 130 7 (nI 0))) _ = _
      rw [d168 hf1 V]
      show (if nI (ov s.1) = nI 0 then _ else _) = _
      rw [if_neg q0]
      rfl
/-- a courier is placed -/
def plF (f : Nat → Int32) (c j : Nat) : Nat → Int32 := upd (upd f (97 + 5 * c + 0) (nI j)) (97 + 5 * c + 2) (-1)
def ocB (f : Nat → Int32) (c j b : Nat) : Bool := decide (b ≠ c ∧ f (97 + 5 * b + 0) = nI j)
theorem oc_no {c j n : Nat} (h : anyN (ocB f c j) n = false) : ∀ b, b < n → b ≠ c → f (97 + 5 * b + 0) ≠ nI j := fun b hb hn e => by
  have := an_f n h b hb
  unfold ocB at this
  rw [decide_eq_false_iff_not] at this
  exact this ⟨hn, e⟩
theorem pl_rv (V : rv f) {c j : Nat} (hc : c < 4) (hj : j < 10) (h : anyN (ocB f c j) 4 = false) : rv (plF f c j) := by
  have h24 := V.s24
  have e : ∀ x, x ≠ 97 + 5 * c + 0 → x ≠ 97 + 5 * c + 2 → plF f c j x = f x := fun x q1 q2 => (upd_n q2).trans (upd_n q1)
  have e0 : plF f c j (97 + 5 * c + 0) = nI j := (upd_n (by omega)).trans upd_s
  have e2 : plF f c j (97 + 5 * c + 2) = -1 := upd_s
  have hno := oc_no h
  refine ⟨V.1.cg (fun x q => e x (by omega) (by omega)), ⟨fun b hb => ?_, fun b hb d hd hn => ?_⟩, V.2.2.1.cg (fun x q _ => e x (by omega) (by omega)), V.2.2.2.cg V.p8 (fun x q _ _ _ => e x (by omega) (by omega))⟩
  · obtain ⟨q1, q2, q3⟩ := V.2.1.1 b hb
    by_cases w : b = c
    · subst w
      rw [e0, e2, e (97 + 5 * b + 1) (by omega) (by omega)]
      exact ⟨sm_nI hj, q2, .inl rfl⟩
    · rw [e (97 + 5 * b + 0) (by omega) (by omega), e (97 + 5 * b + 1) (by omega) (by omega), e (97 + 5 * b + 2) (by omega) (by omega), sN.cg (e 0 (by omega) (by omega))]
      refine ⟨q1, q2, ?_⟩
      rcases q3 with hv | ⟨s, z1, z2, z3, z4⟩
      · exact .inl hv
      · refine .inr ⟨s, z1, z2, ?_, ?_⟩
        · rw [e (1 + 4 * s) (by omega) (by omega)]; exact z3
        · rw [e (1 + 4 * s + 3) (by omega) (by omega)]; exact z4
  · by_cases w : b = c
    · subst w
      rw [e0, e (97 + 5 * d + 0) (by omega) (by omega)]
      exact fun z => hno d hd (Ne.symm hn) z.symm
    · by_cases w2 : d = c
      · subst w2
        rw [e0, e (97 + 5 * b + 0) (by omega) (by omega)]
        exact hno b hb w
      · rw [e (97 + 5 * b + 0) (by omega) (by omega), e (97 + 5 * d + 0) (by omega) (by omega)]
        exact V.2.1.2 b hb d hd hn
theorem d2 (R : RC m 1 f) {p : Int32} : ∃ x, D2 m p = some x ∧ ((x = -1 ∧ ∀ c, c < 4 → f (97 + 5 * c + 0) ≠ p) ∨ ∃ c, c < 4 ∧ x = nI c ∧ f (97 + 5 * c + 0) = p) := by
  unfold D2
  refine lp_inv (fun k t => t = nI k ∧ ∀ c, c < k → f (97 + 5 * c + 0) ≠ p) (fun x => (x = -1 ∧ ∀ c, c < 4 → f (97 + 5 * c + 0) ≠ p) ∨ ∃ c, c < 4 ∧ x = nI c ∧ f (97 + 5 * c + 0) = p) 4 (by omega) ⟨rfl, fun c hc => by omega⟩ ?_ ?_
  · rintro k t hk ⟨rfl, ho⟩
    show (∃ s', (if nI 4 ≤ nI k then _ else Option.bind (gI m 6 4 (nI k)) _) = _ ∧ _) ∨ (∃ b, (if nI 4 ≤ nI k then _ else Option.bind (gI m 6 4 (nI k)) _) = _ ∧ _)
    rw [if_neg (nI_ge hk (by omega)), gI_n hk (by omega), R.at hk]
    show (∃ s', (if f (97 + 5 * k + 0) = p then _ else _) = _ ∧ _) ∨ (∃ b, (if f (97 + 5 * k + 0) = p then _ else _) = _ ∧ _)
    by_cases q : f (97 + 5 * k + 0) = p
    · rw [if_pos q]
      exact .inr ⟨nI k, rfl, .inr ⟨k, hk, rfl, q⟩⟩
    · rw [if_neg q]
      refine .inl ⟨nI k + nI 1, rfl, nI_add k 1, fun c hc => ?_⟩
      by_cases e : c = k
      · rw [e]; exact q
      · exact ho c (by omega)
  · rintro t ⟨rfl, ho⟩
    refine ⟨-1, ?_, .inl ⟨rfl, ho⟩⟩
    show (if nI 4 ≤ nI 4 then _ else _) = _
    rw [if_pos (nI_le (Nat.le_refl 4) (by omega))]
theorem d48 (R : RC m 1 f) (V : rv f) {c j : Nat} (hc : c < 4) (V2 : rv (plF f c j)) : ∃ m', D48 m (nI c) (nI j) = some (f (97 + 5 * c + 0), m') ∧ chg nowC m m' ∧ RC m' 1 (nt (plF f c j) 0) := by
  unfold D48
  rw [d128 hc, gI_n hc (by omega), R.at hc]
  show ∃ m', Option.bind (sI m 6 4 (nI c) (nI j)) _ = _ ∧ _
  rw [sI_n hc (by omega)]
  show ∃ m', Option.bind (D4 (wI m 6 c (nI j)) (nI c)) _ = _ ∧ _
  obtain ⟨m2, e2, c2, h2⟩ := d4 (m := wI m 6 c (nI j)) hc
  rw [e2]
  have c3 : chg (fun b => b = 6 ∨ b = 7) m m2 := (chg.wI chg.rf (.inl rfl)).tr (c2.mono (fun b q => .inr q))
  have R2 : RC m2 1 (plF f c j) := by
    refine R.mkc (c3.mono (fun b q => by omega)) (fun x q => (upd_n (fun z => q (by omega))).trans (upd_n (fun z => q (by omega)))) (fun b hb => ?_) V
    show bt (rI m2 5 4) b = _ ∧ rI m2 6 b = _ ∧ rI m2 7 b = _ ∧ rI m2 8 b = _ ∧ rI m2 9 b = _
    have e : ∀ x, x ≠ 97 + 5 * c + 0 → x ≠ 97 + 5 * c + 2 → plF f c j x = f x := fun x q1 q2 => (upd_n q2).trans (upd_n q1)
    rw [c3.1 5 (by omega), c3.1 8 (by omega), c3.1 9 (by omega), h2, c2.1 6 (by omega), rI_ws, rI_wn (by decide), e (97 + 5 * b + 1) (by omega) (by omega), e (97 + 5 * b + 3) (by omega) (by omega), e (97 + 5 * b + 4) (by omega) (by omega)]
    refine ⟨R.vb hb, ?_, ?_, R.mv hb, R.oc hb⟩
    · by_cases w : b = c
      · subst w
        rw [upd_s]
        exact ((upd_n (by omega)).trans upd_s).symm
      · rw [upd_n w, e (97 + 5 * b + 0) (by omega) (by omega)]
        exact R.at hb
    · by_cases w : b = c
      · subst w
        rw [upd_s]
        exact upd_s.symm
      · rw [upd_n w, e (97 + 5 * b + 2) (by omega) (by omega)]
        exact R.od hb
  obtain ⟨m3, e3, c4, R3⟩ := d43 R2 V2
  show ∃ m', Option.bind (D43 m2) _ = _ ∧ _
  rw [e3]
  exact ⟨m3, rfl, (c3.mono (fun b q => .inl (by omega))).tr (c4.mono (fun b q => .inl (by omega))), R3⟩
theorem k2 (h : INV m) (hi : i + 4 < X.1) (hX : X.1 ≤ 2560) : OK m (C2 X m (nI i)) := by
  unfold C2
  simp only [gx (i := i) (j := 1) (by omega) hX, gx (i := i) (j := 2) (by omega) hX, Option.bind_some]
  refine lkI (A := D247 m (X.2 (i + 1)) (X.2 (i + 2))) (B := fun m1 => D180 m1 (X.2 (i + 1)) (X.2 (i + 2))) h (fun s hC hM => ?_)
  generalize X.2 (i + 1) = p1
  generalize X.2 (i + 2) = p2
  have R := hC.R
  have V := hC.V
  rcases two_or (n := 10) (by omega) p1 p2 with ⟨c, j, hc, hj, rfl, rfl⟩ | hb | ⟨c, hc, rfl, hb⟩
  · have hm : ∀ m2, IM m2 s → ∃ mB, D149 (wI m2 130 7 (nI 0)) = some mB ∧ (anyN (ocB s.1 c j) 4 = true → D180 m2 (nI c) (nI j) = some (nI 0, wI (wI m2 130 7 (nI 0)) 130 7 (nI 2))) ∧ (anyN (ocB s.1 c j) 4 = false → ∃ mC, D180 m2 (nI c) (nI j) = some (s.1 (97 + 5 * c + 0), mC) ∧ chg rowM mB mC ∧ rI mC 131 = nt (plF s.1 c j) 0) := by
      intro m2 hM2
      have hf1 : rI (wI m2 130 7 (nI 0)) 131 = s.1 := hM2.f7
      obtain ⟨mB, eB, IB, cB, tB⟩ := (hM2.w7 (v := nI 0)).sv hC.n5
      refine ⟨mB, eB, ?_⟩
      have e0 : D180 m2 (nI c) (nI j) = lp (β := Int32 × dM) 3000 (fun (s6 : Int32) => if (nI 4) ≤ s6 then (D149 (wI m2 130 7 (nI 0))).bind fun (r7 : dM) => (D150 r7 (nI c) (nI 0)).bind fun (x8 : Int32) => (D151 r7 (nI c) (nI 0) (nI j)).bind fun (r9 : dM) => (D151 r9 (nI c) (nI 2) (-1)).bind fun (r10 : dM) => (D165 r10).bind fun (r11 : dM) => some (Sum.inr (α := Int32) (x8, r11)) else if s6 = nI c then some (.inl (s6 + (nI 1))) else (D150 (wI m2 130 7 (nI 0)) s6 (nI 0)).bind fun (x12 : Int32) => if x12 = nI j then (D143 (wI m2 130 7 (nI 0)) (nI 2)).bind fun (r13 : Int32 × dM) => some (.inr (r13.1, r13.2)) else some (.inl (s6 + (nI 1)))) (nI 0) := by
        unfold D180
        show Option.bind (D146 (nI c)) _ = _
        rw [d146 hc]
        show Option.bind (D145 (nI j)) _ = _
        rw [d145 hj]
        rfl
      rw [e0]
      have hstep : ∀ (Q : Int32 × dM → Prop), (anyN (ocB s.1 c j) 4 = true → Q (nI 0, wI (wI m2 130 7 (nI 0)) 130 7 (nI 2))) → (∀ t, t = nI 4 → anyN (ocB s.1 c j) 4 = false → ∃ b, ((D149 (wI m2 130 7 (nI 0))).bind fun (r7 : dM) => (D150 r7 (nI c) (nI 0)).bind fun (x8 : Int32) => (D151 r7 (nI c) (nI 0) (nI j)).bind fun (r9 : dM) => (D151 r9 (nI c) (nI 2) (-1)).bind fun (r10 : dM) => (D165 r10).bind fun (r11 : dM) => some (Sum.inr (α := Int32) (x8, r11))) = some (Sum.inr b) ∧ Q b) → ∃ r, lp (β := Int32 × dM) 3000 (fun (s6 : Int32) => if (nI 4) ≤ s6 then (D149 (wI m2 130 7 (nI 0))).bind fun (r7 : dM) => (D150 r7 (nI c) (nI 0)).bind fun (x8 : Int32) => (D151 r7 (nI c) (nI 0) (nI j)).bind fun (r9 : dM) => (D151 r9 (nI c) (nI 2) (-1)).bind fun (r10 : dM) => (D165 r10).bind fun (r11 : dM) => some (Sum.inr (α := Int32) (x8, r11)) else if s6 = nI c then some (.inl (s6 + (nI 1))) else (D150 (wI m2 130 7 (nI 0)) s6 (nI 0)).bind fun (x12 : Int32) => if x12 = nI j then (D143 (wI m2 130 7 (nI 0)) (nI 2)).bind fun (r13 : Int32 × dM) => some (.inr (r13.1, r13.2)) else some (.inl (s6 + (nI 1)))) (nI 0) = some r ∧ Q r := by
        intro Q hQ hF
        refine lp_inv (fun k t => t = nI k ∧ anyN (ocB s.1 c j) k = false) Q 4 (by omega) ⟨rfl, rfl⟩ ?_ ?_
        · rintro k t hk ⟨rfl, ho⟩
          show (∃ s', (if nI 4 ≤ nI k then _ else if nI k = nI c then _ else Option.bind (D150 (wI m2 130 7 (nI 0)) (nI k) (nI 0)) _) = _ ∧ _) ∨ (∃ b, (if nI 4 ≤ nI k then _ else if nI k = nI c then _ else Option.bind (D150 (wI m2 130 7 (nI 0)) (nI k) (nI 0)) _) = _ ∧ _)
          rw [if_neg (nI_ge hk (by omega)), d150 hf1 hk (by omega)]
          by_cases q1 : k = c
          · rw [if_pos (show nI k = nI c by rw [q1])]
            refine .inl ⟨nI k + nI 1, rfl, nI_add k 1, ?_⟩
            rw [an4, ho, Bool.false_or]
            unfold ocB
            rw [decide_eq_false_iff_not]
            exact fun z => z.1 q1
          · rw [if_neg (fun z => q1 ((nI_eq (by omega) (by omega)).mp z))]
            show (∃ s', (if s.1 (97 + 5 * k + 0) = nI j then _ else _) = _ ∧ _) ∨ (∃ b, (if s.1 (97 + 5 * k + 0) = nI j then _ else _) = _ ∧ _)
            by_cases q2 : s.1 (97 + 5 * k + 0) = nI j
            · rw [if_pos q2]
              exact .inr ⟨_, rfl, hQ (an_t 4 k hk (decide_eq_true ⟨q1, q2⟩))⟩
            · rw [if_neg q2]
              refine .inl ⟨nI k + nI 1, rfl, nI_add k 1, ?_⟩
              rw [an4, ho, Bool.false_or]
              unfold ocB
              rw [decide_eq_false_iff_not]
              exact fun z => q2 z.2
        · rintro t ⟨ht, ho⟩
          obtain ⟨b, e, hb⟩ := hF t ht ho
          refine ⟨b, ?_, hb⟩
          subst ht
          show (if nI 4 ≤ nI 4 then _ else _) = _
          rw [if_pos (nI_le (Nat.le_refl 4) (by omega))]
          exact e
      refine ⟨fun q => ?_, fun q => ?_⟩
      · obtain ⟨r, e, hr⟩ := hstep (fun r => r = (nI 0, wI (wI m2 130 7 (nI 0)) 130 7 (nI 2))) (fun _ => rfl) (fun t _ z => by rw [q] at z; cases z)
        rw [e, hr]
      · have hrow : rI (wI (wI mB 131 (97 + 5 * c + 0) (nI j)) 131 (97 + 5 * c + 2) (-1)) 131 = plF s.1 c j := by rw [rI_ws, rI_ws, IB.e1]; rfl
        have V2 := pl_rv V hc hj q
        obtain ⟨mC, eC, cC, rC⟩ := d165 hrow V2.2.1 V2.s24 V2.2.2.1
        obtain ⟨⟨x, m'⟩, e, hr1, hr2⟩ := hstep (fun r => r.1 = s.1 (97 + 5 * c + 0) ∧ r.2 = mC) (fun z => by rw [q] at z; cases z) (fun t _ _ => by
          rw [eB, Option.bind_some, d150 IB.e1 hc (by omega), Option.bind_some, d151 hc (by omega), Option.bind_some, d151 hc (by omega), Option.bind_some, eC]
          exact ⟨_, rfl, rfl, rfl⟩)
        replace hr1 : x = s.1 (97 + 5 * c + 0) := hr1
        replace hr2 : m' = mC := hr2
        subst hr1 hr2
        exact ⟨m', e, (chg.wI (chg.wI chg.rf (.inl rfl)) (.inl rfl)).tr (cC.mono (fun b q => .inl q)), rC⟩
    obtain ⟨m1, e1, I1, c1⟩ := hC.sv
    obtain ⟨x, ex, hx⟩ := d2 R (p := nI j)
    have hcl : D72 m (nI c) (nI j) = if anyN (ocB s.1 c j) 4 = true then some (.inr 2, bump m) else (D48 m1 (nI c) (nI j)).bind fun (r9 : Int32 × dM) => some (.inl r9.1, r9.2) := by
      unfold D72
      rw [d124 hc, d123 hj]
      show Option.bind (D2 m (nI j)) _ = _
      rw [ex]
      show (if x = -1 then Option.bind (D131 m) _ else if x = nI c then Option.bind (D131 m) _ else _) = _
      rw [e1]
      show (if x = -1 then Option.bind (D48 m1 (nI c) (nI j)) _ else if x = nI c then Option.bind (D48 m1 (nI c) (nI j)) _ else _) = _
      rcases hx with ⟨hx, hno⟩ | ⟨b, hb, hx, hat⟩
      · rw [if_pos hx]
        cases w : anyN (ocB s.1 c j) 4 with
        | false => rfl
        | true =>
          exfalso
          have : anyN (ocB s.1 c j) 4 = false := by
            have key : ∀ n, n ≤ 4 → anyN (ocB s.1 c j) n = false := by
              intro n
              induction n with
              | zero => intro _; rfl
              | succ n ih =>
                intro hn
                rw [an4, ih (by omega), Bool.false_or]
                unfold ocB
                rw [decide_eq_false_iff_not]
                exact fun z => hno n (by omega) z.2
            exact key 4 (Nat.le_refl 4)
          rw [w] at this
          cases this
      · rw [if_neg (by rw [hx, nI_m1 (by omega)]; exact id)]
        by_cases e : b = c
        · rw [if_pos (by rw [hx, e])]
          cases w : anyN (ocB s.1 c j) 4 with
          | false => rfl
          | true =>
            exfalso
            have : anyN (ocB s.1 c j) 4 = false := by
              have key : ∀ n, n ≤ 4 → anyN (ocB s.1 c j) n = false := by
                intro n
                induction n with
                | zero => intro _; rfl
                | succ n ih =>
                  intro hn
                  rw [an4, ih (by omega), Bool.false_or]
                  unfold ocB
                  rw [decide_eq_false_iff_not]
                  rintro ⟨z1, z2⟩
                  exact V.2.1.2 n (by omega) b hb (by omega) (z2.trans hat.symm)
              exact key 4 (Nat.le_refl 4)
            rw [w] at this
            cases this
        · rw [if_neg (by rw [hx, nI_eq (by omega) (by omega)]; exact e), if_pos (an_t 4 b hb (decide_eq_true ⟨e, hat⟩))]
    by_cases q : anyN (ocB s.1 c j) 4 = true
    · rw [if_pos q] at hcl
      refine ⟨s, 2, 0, (nI 2, bump m), g_X (j := 2) (m1 := bump m) hcl, co_x hC chv.rf rfl (by omega) (by omega), fun m2 hM2 => ?_⟩
      obtain ⟨mB, eB, e, -⟩ := hm m2 hM2
      exact ⟨_, e q, mo_x hM2 (by omega) t_x r7⟩
    · have q' : anyN (ocB s.1 c j) 4 = false := Bool.eq_false_iff.mpr q
      have V2 := pl_rv V hc hj q'
      obtain ⟨m3, e3, c3, R3⟩ := d48 I1.R V hc V2
      rw [if_neg q, e3] at hcl
      have I2 := I1.nowc c3 R3 (rv_drop V2)
      refine ⟨_, 0, _, _, g_I hcl, co_n c1 c3 I2, fun m2 hM2 => ?_⟩
      obtain ⟨mB, eB, -, e⟩ := hm m2 hM2
      obtain ⟨mC, eC, cC, rC⟩ := e q'
      obtain ⟨mB', eB', IB, cB, tB⟩ := (hM2.w7 (v := nI 0)).sv hC.n5
      rw [eB] at eB'
      cases eB'
      exact ⟨_, eC, mo_n rfl cB tB cC (IB.nw cC rC)⟩
  · refine ⟨s, 1, 0, (nI 1, bump m), ?_, co_x hC chv.rf rfl (by omega) (by omega), fun m1 hM1 => ⟨(nI 0, wI (wI m1 130 7 (nI 0)) 130 7 (nI 1)), ?_, mo_x hM1 (by omega) t_x r7⟩⟩
    · refine g_X (j := 0) (m1 := bump m) ?_
      show D72 m p1 p2 = _
      unfold D72
      rw [d124b hb]
      rfl
    · show D180 m1 p1 p2 = _
      unfold D180
      show Option.bind (D146 p1) _ = _
      rw [d146b hb]
      rfl
  · refine ⟨s, 1, 0, (nI 1, bump m), ?_, co_x hC chv.rf rfl (by omega) (by omega), fun m1 hM1 => ⟨(nI 0, wI (wI m1 130 7 (nI 0)) 130 7 (nI 1)), ?_, mo_x hM1 (by omega) t_x r7⟩⟩
    · refine g_X (j := 0) (m1 := bump m) ?_
      show D72 m (nI c) p2 = _
      unfold D72
      rw [d124 hc, d123b hb]
      rfl
    · show D180 m1 (nI c) p2 = _
      unfold D180
      show Option.bind (D146 (nI c)) _ = _
      rw [d146 hc]
      show Option.bind (D145 p2) _ = _
      rw [d145b hb]
      rfl
end OR
