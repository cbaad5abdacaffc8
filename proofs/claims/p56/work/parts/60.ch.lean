/-! CHANGES of the class, told by its row -/
section CH
variable {m : dM} {s : gS}
theorem c70 (hC : IC m s) {a b : Nat} {v : Int32} (ha : a < 10) (hb : b < 10) (hne : a ≠ b) (hn : sN s.1 < 24) (hm : anyN (mtB s.1 (nI a) (nI b)) (sN s.1) = false) (hv : v = nI 0 ∨ v = nI 1) : ∃ m', D70 m (nI a) (nI b) v = some (.inl (nI (sN s.1)), m') ∧ IC m' (nwS (svS s) (asF s.1 (nI a) (nI b) v)) ∧ m'.1 = m.1 := by
  have R := hC.R
  have V := hC.V
  have h24 := V.s24
  have hab : ¬ nI a = nI b := fun z => hne ((nI_eq (by omega) (by omega)).mp z)
  obtain ⟨m1, e1, I1, c1⟩ := hC.sv
  have R1 : RC m1 1 s.1 := I1.R
  obtain ⟨m3, e3, c3, R3⟩ := d61 R1 V hn (p := nI a) (q := nI b) hv
  have V2 := as_rv (v := v) V hn (sm_nI ha) (sm_nI hb) hab
  have I2 := I1.nowc c3 R3 V2
  obtain ⟨x, ex, hx⟩ := d60 R V (p := nI a) (q := nI b)
  refine ⟨m3, ?_, I2, c3.2.2.2.trans c1.2.2⟩
  unfold D70
  rw [d123 ha, d123 hb]
  show (if nI a = nI b then _ else if nI 24 ≤ rI m 2 4 then _ else Option.bind (D60 m (nI a) (nI b)) _) = _
  rw [if_neg hab, R.sc, V.s0, if_neg (nI_ge hn (by omega)), ex]
  show (if x = -1 then Option.bind (D131 m) _ else _) = _
  rw [if_pos (hx.mpr hm), e1]
  show Option.bind (D61 m1 (nI a) (nI b) v) _ = _
  rw [e3]
  rfl
theorem c71 (hC : IC m s) {t : Nat} (ht : t < sN s.1) : ∃ m', D71 m (nI t) = some (.inl (tgB s.1 t), m') ∧ IC m' (nwS (svS s) (tgF s.1 t)) ∧ m'.1 = m.1 := by
  have R := hC.R
  have V := hC.V
  obtain ⟨m1, e1, I1, c1⟩ := hC.sv
  have R1 : RC m1 1 s.1 := I1.R
  obtain ⟨m3, e3, c3, R3⟩ := d47 R1 V ht
  have I2 := I1.nowc c3 R3 (tg_rv V ht)
  refine ⟨m3, ?_, I2, c3.2.2.2.trans c1.2.2⟩
  unfold D71
  rw [d126 R V ht]
  show Option.bind (D131 m) _ = _
  rw [e1]
  show Option.bind (D47 m1 (nI t)) _ = _
  rw [e3]
  show Option.bind (gB (tgB s.1 t)) _ = _
  rw [tgB_g]
  rfl
theorem c72 (hC : IC m s) {c j : Nat} (hc : c < 4) (hj : j < 10) (hno : anyN (ocB s.1 c j) 4 = false) : ∃ m', D72 m (nI c) (nI j) = some (.inl (s.1 (97 + 5 * c + 0)), m') ∧ IC m' (nwS (svS s) (nt (plF s.1 c j) 0)) ∧ m'.1 = m.1 := by
  have R := hC.R
  have V := hC.V
  obtain ⟨m1, e1, I1, c1⟩ := hC.sv
  have R1 : RC m1 1 s.1 := I1.R
  have V2 := pl_rv V hc hj hno
  obtain ⟨m3, e3, c3, R3⟩ := d48 R1 V hc V2
  have I2 := I1.nowc c3 R3 (rv_drop V2)
  obtain ⟨x, ex, hx⟩ := d2 R (p := nI j)
  refine ⟨m3, ?_, I2, c3.2.2.2.trans c1.2.2⟩
  unfold D72
  rw [d124 hc, d123 hj]
  show Option.bind (D2 m (nI j)) _ = _
  rw [ex]
  show (if x = -1 then Option.bind (D131 m) _ else if x = nI c then Option.bind (D131 m) _ else _) = _
  rw [e1]
  show (if x = -1 then Option.bind (D48 m1 (nI c) (nI j)) _ else if x = nI c then Option.bind (D48 m1 (nI c) (nI j)) _ else _) = _
  rw [e3]
  rcases hx with ⟨hx, -⟩ | ⟨b, hb, hx, hat⟩
  · rw [if_pos hx]
    rfl
  · have e : b = c := Classical.byContradiction fun e => oc_no hno b hb e hat
    rw [if_neg (by rw [hx, nI_m1 (by omega)]; exact id), if_pos (by rw [hx, e])]
    rfl
theorem c73 (hC : IC m s) {c : Nat} (hc : c < 4) (hl : ld s.1 (nI c) (pN s.1) ≤ (if vn s.1 c = nI 1 then nI 2 * s.1 166 else s.1 166)) : ∃ m', D73 m (nI c) = some (.inl (vn s.1 c), m') ∧ IC m' (nwS (svS s) (vaF s.1 c)) ∧ m'.1 = m.1 := by
  have R := hC.R
  have V := hC.V
  have hv := vn_sm V hc
  obtain ⟨m1, e1, I1, c1⟩ := hC.sv
  have R1 : RC m1 1 s.1 := I1.R
  obtain ⟨m3, e3, c3, R3⟩ := d49 R1 V hc
  have I2 := I1.nowc c3 R3 (va_rv V hc)
  refine ⟨m3, ?_, I2, c3.2.2.2.trans c1.2.2⟩
  unfold D73
  rw [d124 hc]
  show Option.bind (D3 m (nI c)) _ = _
  rw [d3 R V hc]
  show Option.bind (if s.1 (97 + 5 * c + 1) = nI 0 then some (nI 1) else some (nI 0)) _ = _
  rw [iff_some, hv.2.1]
  show Option.bind (D34 m (nI c)) _ = _
  rw [d34 R V hc]
  show Option.bind (D129 (rI m 1 5) (vn s.1 c)) _ = _
  rw [d129 hv.1, R.cp]
  show (if ld s.1 (nI c) (pN s.1) ≤ (if vn s.1 c = nI 1 then nI 2 * s.1 166 else s.1 166) then Option.bind (D131 m) _ else _) = _
  rw [if_pos hl, e1]
  show Option.bind (D49 m1 (nI c)) _ = _
  rw [e3]
  show Option.bind (gB (vn s.1 c)) _ = _
  rw [gB_sm hv.1]
  rfl
theorem c75 (hC : IC m s) {a b w v : Nat} (ha : a < 10) (hb : b < 10) (hne : a ≠ b) (hw1 : 1 ≤ w) (hw5 : w ≤ 5) (hv1 : 1 ≤ v) (hv9 : v ≤ 9) (h8 : pN s.1 < 8) : ∃ m', D75 m (nI a) (nI b) (nI w) (nI v) = some (.inl (nI (pN s.1)), m') ∧ IC m' (nwS (svS s) (nt (adF s.1 (nI a) (nI b) (nI w) (nI v)) 0)) ∧ m'.1 = m.1 := by
  have R := hC.R
  have V := hC.V
  have hab : ¬ nI a = nI b := fun z => hne ((nI_eq (by omega) (by omega)).mp z)
  obtain ⟨m1, e1, I1, c1⟩ := hC.sv
  have R1 : RC m1 1 s.1 := I1.R
  have V2 : rv (adF s.1 (nI a) (nI b) (nI w) (nI v)) := ad_rv V h8 (sm_nI ha) (sm_nI hb) (sm_nI (by omega)) ⟨v, by omega, by omega, rfl⟩
  obtain ⟨m3, e3, c3, R3⟩ := RC_ad R1 V h8 V2
  have I2 := I1.nowc c3 R3 (rv_drop V2)
  refine ⟨m3, ?_, I2, c3.2.2.2.trans c1.2.2⟩
  unfold D75
  rw [d123 ha, d123 hb]
  show (if nI a = nI b then _ else if nI w < nI 1 then _ else if nI 5 < nI w then _ else if nI v < nI 1 then _ else if nI v ≤ nI 9 then if rI m 10 4 < nI 8 then Option.bind (D131 m) _ else _ else _) = _
  rw [if_neg hab, if_neg (nI_nlt hw1 (by omega)), if_neg (nI_nlt hw5 (by omega)), if_neg (nI_nlt hv1 (by omega)), if_pos (nI_le hv9 (by omega)), R.pc, V.p0, if_pos (nI_lt h8 (by omega)), e1]
  show Option.bind (D30 m1 (nI a) (nI b) (nI w) (nI v)) _ = _
  rw [d30 R1 V h8]
  show Option.bind (D43 (aK m1 (pN s.1) (nI a) (nI b) (nI w) (nI v))) _ = _
  rw [e3]
  rfl
theorem c76 (hC : IC m s) {l : Nat} (h1 : 1 ≤ l) (h60 : l ≤ 60) : ∃ m', D76 m (nI l) = some (.inl (s.1 167), m') ∧ IC m' (nwS (svS s) (upd s.1 167 (nI l))) ∧ m'.1 = m.1 := by
  obtain ⟨m1, e1, I1, c1⟩ := hC.sv
  have R1 : RC m1 1 s.1 := I1.R
  have V1 := rv_set hC.V (x := 167) (v := nI l) (.inr rfl) (fun _ => ⟨l, h60, rfl⟩)
  have I2 := I1.nowc (m1 := wI m1 1 6 (nI l)) (chg.wI chg.rf (.inl (by omega))) (RC_lim R1 hC.V) V1
  refine ⟨wI m1 1 6 (nI l), ?_, I2, c1.2.2⟩
  unfold D76
  rw [if_neg (nI_nlt h1 (by omega)), if_pos (nI_le h60 (by omega)), e1]
  show some (Sum.inl (rI m1 1 6), wI m1 1 6 (nI l)) = _
  rw [R1.lm]
theorem c77 (hC : IC m s) {c b : Nat} (hc : c < 4) (hb : b < sN s.1) (hw : why s.1 c b = 0) : ∃ m', D77 m (nI c) (nI b) = some (.inl (s.1 (1 + 4 * b + 1)), m') ∧ IC m' (nwS (svS s) (upd s.1 (97 + 5 * c + 2) (nI b))) ∧ m'.1 = m.1 := by
  have R := hC.R
  have V := hC.V
  obtain ⟨m1, e1, I1, c1⟩ := hC.sv
  have R1 : RC m1 1 s.1 := I1.R
  obtain ⟨q1, q2, q3⟩ := why0 hw
  have I2 := I1.nowc (m1 := wI m1 7 c (nI b)) (chg.wI chg.rf (.inl (by omega))) (RC_ord R1 V hc (chg.wI chg.rf rfl) rI_ws) (rv_ord V hc (.inr ⟨b, hb, rfl, q2, q3⟩))
  refine ⟨wI m1 7 c (nI b), ?_, I2, c1.2.2⟩
  unfold D77
  rw [d124 hc, d126 R V hb]
  show Option.bind (D51 m (nI c) (nI b)) _ = _
  rw [d51 R V hc hb, hw]
  show Option.bind (D131 m) _ = _
  rw [e1]
  show Option.bind (D50 m1 (nI c) (nI b)) _ = _
  rw [d50 R1 V hc hb]
  rfl
theorem c78 (hC : IC m s) {c : Nat} (hc : c < 4) : ∃ m', D78 m (nI c) = some (.inl (if s.1 (97 + 5 * c + 2) = -1 then nI 0 else nI 1), m') ∧ IC m' (nwS (svS s) (upd s.1 (97 + 5 * c + 2) (-1))) ∧ m'.1 = m.1 := by
  have V := hC.V
  obtain ⟨m1, e1, I1, c1⟩ := hC.sv
  have R1 : RC m1 1 s.1 := I1.R
  obtain ⟨m2, e2, c2, h2⟩ := d4 (m := m1) hc
  rw [R1.od hc] at e2
  have I2 := I1.nowc (m1 := m2) (c2.mono (fun b q => .inl (by omega))) (RC_ord R1 V hc c2 h2) (rv_ord V hc (.inl rfl))
  refine ⟨m2, ?_, I2, c2.2.2.2.trans c1.2.2⟩
  unfold D78
  rw [d124 hc]
  show Option.bind (D131 m) _ = _
  rw [e1]
  show Option.bind (D4 m1 (nI c)) _ = _
  rw [e2]
  show Option.bind (gB (if s.1 (97 + 5 * c + 2) = -1 then nI 0 else nI 1)) _ = _
  rw [gB_j]
  rfl
theorem c79 (hC : IC m s) (q : ov s.1 = 0) : ∃ m', D79 m = some (.inl (mvn s.1 4), m') ∧ IC m' (nwS (svS s) (TF s.1)) ∧ m'.1 = m.1 ∧ rI m' 130 = rI m 130 := by
  have R := hC.R
  have V := hC.V
  obtain ⟨m1, e1, I1, c1⟩ := hC.sv
  have R1 : RC m1 1 s.1 := I1.R
  obtain ⟨m2, e2, c2, R2⟩ := d52 R1 V q
  have V2 := TF_rv V q
  generalize mvn s.1 4 = y at e2 ⊢
  generalize TF s.1 = F at R2 V2 ⊢
  have I2 := I1.nowc (m1 := m2) (c2.mono (fun b q => q)) R2 V2
  refine ⟨m2, ?_, I2, c2.2.2.2.trans c1.2.2, (c2.1 130 (by unfold ST; omega)).trans (c1.1 130 (by omega))⟩
  unfold D79
  rw [d44 R V, q]
  show Option.bind (D131 m) _ = _
  rw [e1]
  show Option.bind (D52 m1) _ = _
  rw [e2]
  rfl
/-- undo brings the last saved row -/
theorem c86 (hC : IC m s) {n : Nat} (hn : s.2.1 = n + 1) : ∃ m', D86 m = some (.inl (nI n), m') ∧ IC m' (s.2.2.1 n, n, s.2.2) ∧ m'.1 = m.1 := by
  obtain ⟨n5, n6, h3, h4, h5⟩ := hC.2.2.1
  have hv := h3 n (by omega)
  have hr := isS.rg hv
  obtain ⟨Rn, Vn⟩ := h5 n (by omega)
  have c0 : chg (fun b => b = 0) m (wI m 0 6 (nI n)) := chg.wI chg.rf rfl
  have hk := K41_c (m := wI m 0 6 (nI n)) (A := rR m n) (B := 1)
  have hRK : RC (K41 (rR m n) 1 (wI m 0 6 (nI n))) 1 (s.2.2.1 n) := K41_R (by omega) (Rn.ch c0 (fun b z1 z2 => by omega)) Vn.t61
  have hS1 := k41_1S (m := wI m 0 6 (nI n)) hv
  generalize K41 (rR m n) 1 (wI m 0 6 (nI n)) = K at hk hRK hS1
  have k0 : rI K 0 = upd (rI m 0) 6 (nI n) := (hk.1 0 (by omega)).trans rI_ws
  have hrR : rR K = rR m := hk.2.2.1
  have cA : chg (fun b => b ≤ 17) m K := (c0.mono (fun b q => by omega)).tr (hk.mono (fun b q => by omega))
  have I2 : IC K (s.2.2.1 n, n, s.2.2) := by
    obtain ⟨-, -, -, ⟨b1, b2, b3⟩, l1, l2, l3⟩ := hC
    refine ⟨hRK, Vn, ⟨by show n ≤ 5; omega, by rw [k0, upd_s], ?_, ?_, fun k hk2 => ?_⟩, ⟨b1, ?_, fun e => ⟨(b3 e).1.ch cA (fun b z1 z2 => by omega), (b3 e).2⟩⟩, l1, ?_, fun k hk2 => ?_⟩
    · rw [hrR]; exact h3
    · rw [hrR]; exact h4
    · rw [hrR]
      have hr2 := isS.rg (h3 k (by show k < 5; have : k < n := hk2; omega))
      have := h5 k (by have : k < n := hk2; omega)
      exact ⟨this.1.ch cA (fun b z1 z2 => by omega), this.2⟩
    · rw [k0, upd_n (by decide)]; exact b2
    · rw [cA.1 42 (by omega)]; exact l2
    · rw [cA.1 43 (by omega)]; exact l3 k hk2
  refine ⟨K, ?_, I2, cA.2.2.2⟩
  unfold D86
  rw [n6, hn, if_pos (nI_lt (by omega) (by omega)), nI_sub (by omega), show n + 1 - 1 = n from rfl, fI_e, Option.bind_some, rI_ws, upd_s, gR_n (by omega), Option.bind_some]
  show Option.bind (D41_1_S (wI m 0 6 (nI n)) (rR m n)) _ = _
  rw [hS1]
  show some (Sum.inl (rI K 0 6), K) = _
  rw [k0, upd_s]
end CH
