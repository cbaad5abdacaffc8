/-! THE CLASS'S SMALL METHODS over the state of now -/
section CM
variable {m : dM} {f : Nat → Int32}
theorem rv.s0 (V : rv f) : f 0 = nI (sN f) := V.1.1
theorem rv.s24 (V : rv f) : sN f ≤ 24 := V.1.2.1
theorem rv.p0 (V : rv f) : f 117 = nI (pN f) := V.2.2.1.1
theorem rv.p8 (V : rv f) : pN f ≤ 8 := V.2.2.1.2.1
theorem rv.t0 (V : rv f) : f 174 = nI (tN f) := V.2.2.2.1
theorem rv.t1 (V : rv f) : 1 ≤ tN f := V.2.2.2.2.1
theorem rv.t61 (V : rv f) : tN f ≤ 61 := by
  obtain ⟨t, h1, -, h2⟩ := V.2.2.2.2.2.1
  omega
theorem RC.sc (R : RC m 1 f) : rI m 2 4 = f 0 := R.1.1
theorem RC.fr (R : RC m 1 f) {s : Nat} (h : s < 24) : rI m 3 s = f (1 + 4 * s) := (R.1.2 s h).1
theorem RC.to (R : RC m 1 f) {s : Nat} (h : s < 24) : rI m 4 s = f (1 + 4 * s + 1) := (R.1.2 s h).2.1
theorem RC.nb (R : RC m 1 f) {s : Nat} (h : s < 24) : bt (rI m 2 2) s = decide (f (1 + 4 * s + 2) = nI 1) := (R.1.2 s h).2.2.1
theorem RC.ob (R : RC m 1 f) {s : Nat} (h : s < 24) : bt (rI m 2 3) s = decide (f (1 + 4 * s + 3) = nI 1) := (R.1.2 s h).2.2.2
theorem RC.vb (R : RC m 1 f) {c : Nat} (h : c < 4) : bt (rI m 5 4) c = decide (f (97 + 5 * c + 1) = nI 1) := (R.2.1 c h).1
theorem RC.at (R : RC m 1 f) {c : Nat} (h : c < 4) : rI m 6 c = f (97 + 5 * c + 0) := (R.2.1 c h).2.1
theorem RC.od (R : RC m 1 f) {c : Nat} (h : c < 4) : rI m 7 c = f (97 + 5 * c + 2) := (R.2.1 c h).2.2.1
theorem RC.mv (R : RC m 1 f) {c : Nat} (h : c < 4) : rI m 8 c = f (97 + 5 * c + 3) := (R.2.1 c h).2.2.2.1
theorem RC.oc (R : RC m 1 f) {c : Nat} (h : c < 4) : rI m 9 c = f (97 + 5 * c + 4) := (R.2.1 c h).2.2.2.2
theorem RC.pc (R : RC m 1 f) : rI m 10 4 = f 117 := R.2.2.1.1
theorem RC.tg (R : RC m 1 f) {p : Nat} (h : p < 8) : rI m 11 p = f (118 + 6 * p + 1) := (R.2.2.1.2 p h).1
theorem RC.wg (R : RC m 1 f) {p : Nat} (h : p < 8) : rI m 12 p = f (118 + 6 * p + 2) := (R.2.2.1.2 p h).2.1
theorem RC.vl (R : RC m 1 f) {p : Nat} (h : p < 8) : rI m 13 p = f (118 + 6 * p + 3) := (R.2.2.1.2 p h).2.2.1
theorem RC.sp (R : RC m 1 f) {p : Nat} (h8 : p < 8) (h : p < pN f) : rI m 14 p = spt f p := (R.2.2.1.2 p h8).2.2.2 h
theorem RC.tc (R : RC m 1 f) : rI m 15 1 = f 174 := R.2.2.2.1.1
theorem RC.nt (R : RC m 1 f) {i : Nat} (h : i < tN f) : nt3 (pN f) (rL m 16 i) (f (175 + 2 * i)) (f (175 + 2 * i + 1)) := R.2.2.2.1.2 i h
theorem RC.pt (R : RC m 1 f) {j : Nat} (h : j < 2) : rI m 17 j = f (170 + j) := R.2.2.2.2.1 j h
theorem RC.cp (R : RC m 1 f) : rI m 1 5 = f 166 := R.2.2.2.2.2.1
theorem RC.lm (R : RC m 1 f) : rI m 1 6 = f 167 := R.2.2.2.2.2.2.1
theorem RC.tn (R : RC m 1 f) : rI m 1 7 = f 168 := R.2.2.2.2.2.2.2.1
theorem RC.fl (R : RC m 1 f) : rI m 1 8 = f 169 := R.2.2.2.2.2.2.2.2.1
theorem RC.st (R : RC m 1 f) : rI m 1 9 = if f 172 = nI 1 then f 173 else -1 := R.2.2.2.2.2.2.2.2.2
theorem not0 {x : Int32} {n : Nat} (h : bad x n) : x < nI 0 ∨ (¬ x < nI 0 ∧ nI n ≤ x) := by
  by_cases q : x < nI 0
  · exact .inl q
  · exact .inr ⟨q, h.resolve_left q⟩
theorem nn0 {j : Nat} (h : j < 2 ^ 31) : ¬ nI j < nI 0 := nI_nlt (Nat.zero_le _) h
theorem d59 (R : RC m 1 f) (V : rv f) {s : Nat} (h : s < sN f) : D59 m (nI s) = some (nI 1) := by
  have h24 := V.s24
  unfold D59
  rw [if_neg (nn0 (by omega)), R.sc, V.s0, if_neg (nI_ge h (by omega)), if_neg (nI_ge (by omega) (by omega))]
  rfl
theorem d59b (R : RC m 1 f) (V : rv f) {p : Int32} (h : bad p (sN f)) : D59 m p = some (nI 0) := by
  unfold D59
  rcases not0 h with h | ⟨h, h2⟩
  · rw [if_pos h]; rfl
  · rw [if_neg h, R.sc, V.s0, if_pos h2]; rfl
theorem d29 (R : RC m 1 f) (V : rv f) {s : Nat} (h : s < pN f) : D29 m (nI s) = some (nI 1) := by
  have h24 := V.p8
  unfold D29
  rw [if_neg (nn0 (by omega)), R.pc, V.p0, if_neg (nI_ge h (by omega)), if_neg (nI_ge (by omega) (by omega))]
  rfl
theorem d29b (R : RC m 1 f) (V : rv f) {p : Int32} (h : bad p (pN f)) : D29 m p = some (nI 0) := by
  unfold D29
  rcases not0 h with h | ⟨h, h2⟩
  · rw [if_pos h]; rfl
  · rw [if_neg h, R.pc, V.p0, if_pos h2]; rfl
theorem d128 {c : Nat} (h : c < 4) : D128 (nI c) = some (nI 1) := by
  unfold D128
  rw [if_neg (nn0 (by omega)), if_neg (nI_ge h (by omega))]
  rfl
theorem d128b {p : Int32} (h : bad p 4) : D128 p = some (nI 0) := by
  unfold D128
  rcases not0 h with h | ⟨h, h2⟩
  · rw [if_pos h]; rfl
  · rw [if_neg h, if_pos h2]; rfl
theorem d123 {c : Nat} (h : c < 10) : D123 (nI c) = some (.inl ()) := by
  unfold D123
  rw [if_neg (nn0 (by omega)), if_pos (nI_lt h (by omega))]
theorem d123b {p : Int32} (h : bad p 10) : D123 p = some (.inr 0) := by
  unfold D123
  rcases not0 h with h | ⟨h, h2⟩
  · rw [if_pos h]
  · rw [if_neg h, if_neg (Int32.not_lt.mpr h2)]
theorem d125 {c : Nat} (h : c < 2) : D125 (nI c) = some (.inl ()) := by
  unfold D125
  rw [if_neg (nn0 (by omega)), if_pos (nI_lt h (by omega))]
theorem d125b {p : Int32} (h : bad p 2) : D125 p = some (.inr 0) := by
  unfold D125
  rcases not0 h with h | ⟨h, h2⟩
  · rw [if_pos h]
  · rw [if_neg h, if_neg (Int32.not_lt.mpr h2)]
theorem d124 {c : Nat} (h : c < 4) : D124 (nI c) = some (.inl ()) := by
  unfold D124
  rw [d128 h]; rfl
theorem d124b {p : Int32} (h : bad p 4) : D124 p = some (.inr 0) := by
  unfold D124
  rw [d128b h]; rfl
theorem d126 (R : RC m 1 f) (V : rv f) {s : Nat} (h : s < sN f) : D126 m (nI s) = some (.inl ()) := by
  unfold D126
  rw [d59 R V h]; rfl
theorem d126b (R : RC m 1 f) (V : rv f) {p : Int32} (h : bad p (sN f)) : D126 m p = some (.inr 0) := by
  unfold D126
  rw [d59b R V h]; rfl
theorem d127 (R : RC m 1 f) (V : rv f) {s : Nat} (h : s < pN f) : D127 m (nI s) = some (.inl ()) := by
  unfold D127
  rw [d29 R V h]; rfl
theorem d127b (R : RC m 1 f) (V : rv f) {p : Int32} (h : bad p (pN f)) : D127 m p = some (.inr 0) := by
  unfold D127
  rw [d29b R V h]; rfl
theorem d62 (R : RC m 1 f) {s : Nat} (h : s < 24) : D62 m (nI s) = some (if f (1 + 4 * s + 3) = nI 1 then nI 1 else nI 0) := by
  unfold D62
  simp only [bit1 (show s < 32 by omega), R.ob h, decide_eq_true_eq, iff_some, Option.bind_some, gB_i]
theorem van2 (V : rv f) {c : Nat} (h : c < 4) : (if f (97 + 5 * c + 1) = nI 1 then nI 1 else nI 0) = f (97 + 5 * c + 1) := by
  obtain ⟨j, h1, e⟩ := (V.2.1.1 c h).2.1
  rw [e]
  have : j = 0 ∨ j = 1 := by omega
  rcases this with rfl | rfl <;> rfl
theorem d3 (R : RC m 1 f) (V : rv f) {c : Nat} (h : c < 4) : D3 m (nI c) = some (f (97 + 5 * c + 1)) := by
  unfold D3
  simp only [bit1 (show c < 32 by omega), R.vb h, decide_eq_true_eq, iff_some, Option.bind_some, gB_i]
  rw [van2 V h]
/-- a street takes a courier -/
def cn (f : Nat → Int32) (s : Nat) (v : Int32) : Prop := f (1 + 4 * s + 3) = nI 1 ∧ ¬ (f (1 + 4 * s + 2) = nI 1 ∧ v = nI 1)
theorem cn_dec (f : Nat → Int32) (s : Nat) (v : Int32) : Nonempty (Decidable (cn f s v)) := ⟨inferInstanceAs (Decidable (_ ∧ _))⟩
theorem d63 (R : RC m 1 f) {v : Int32} (hv : sm v 2) : ∃ u, D63 m v = some u ∧ ∀ s, s < 24 → (bt u s = true) = cn f s v := by
  obtain ⟨j, h1, rfl⟩ := hv
  have hj : j = 0 ∨ j = 1 := by omega
  rcases hj with rfl | rfl
  · refine ⟨rI m 2 3, rfl, fun s hs => ?_⟩
    rw [R.ob hs]
    unfold cn
    simp [n01]
  · refine ⟨rI m 2 3 &&& (rI m 2 2 ^^^ -1), rfl, fun s hs => ?_⟩
    rw [b_and, b_xor, b_m1 s (by omega), R.ob hs, R.nb hs]
    unfold cn
    simp
theorem d64 (R : RC m 1 f) {v : Int32} (hv : sm v 2) {s : Nat} (hs : s < 24) {dc : Decidable (cn f s v)} : D64 m (nI s) v = some (if cn f s v then nI 1 else nI 0) := by
  obtain ⟨u, e, h⟩ := d63 R hv
  unfold D64
  simp only [e, Option.bind_some, bit1 (show s < 32 by omega), h s hs, iff_some, gB_i]
theorem spt_c (V : rv f) {p c : Nat} (hp : p < pN f) (hc : c < 4) : (spt f p = nI 10 + nI c) = (f (118 + 6 * p + 4) = nI 1 ∧ f (118 + 6 * p + 5) = nI c) := by
  obtain ⟨⟨j, h4, e4⟩, -, -, -, -, h5⟩ := V.2.2.1.2.2 p hp
  unfold spt
  rw [nI_add]
  by_cases q1 : f (118 + 6 * p + 4) = nI 0
  · rw [if_pos q1, e4, nI_eq (by omega) (by omega), q1]
    simp only [n01, false_and, eq_iff_iff, iff_false]
    omega
  · obtain ⟨b, h6, e6⟩ := h5 q1
    rw [if_neg q1, e6, nI_add, nI_add]
    by_cases q2 : f (118 + 6 * p + 4) = nI 1
    · rw [if_pos q2, nI_eq (by omega) (by omega), nI_eq (by omega) (by omega)]
      simp only [q2, true_and, eq_iff_iff]
      omega
    · rw [if_neg q2, nI_eq (by omega) (by omega)]
      simp only [q2, false_and, eq_iff_iff, iff_false]
      omega
theorem d34 (R : RC m 1 f) (V : rv f) {c : Nat} (hc : c < 4) : D34 m (nI c) = some (ld f (nI c) (pN f)) := by
  have h8 := V.p8
  unfold D34
  refine lpb (ld f (nI c) (pN f)) (fun i => (ld f (nI c) i, nI i)) (pN f) (by omega) rfl (fun i hi => ?_) ?_ rfl
  · show (if rI m 10 4 ≤ nI i then _ else _) = _
    rw [R.pc, V.p0, if_neg (nI_ge hi (by omega)), gI_n (by omega) (by omega), gI_n (by omega) (by omega), R.sp (by omega) hi, R.wg (by omega)]
    show _ = some (Sum.inl (ld f (nI c) i + (if f (118 + 6 * i + 4) = nI 1 ∧ f (118 + 6 * i + 5) = nI c then f (118 + 6 * i + 2) else nI 0), nI (i + 1)))
    rw [← nI_add i 1]
    simp only [Option.bind_some, spt_c V hi hc, iff_some]
    congr 3
    split
    · rfl
    · exact (Int32.add_zero _).symm
  · show (if rI m 10 4 ≤ nI (pN f) then _ else _) = _
    rw [R.pc, V.p0, if_pos (nI_le (Nat.le_refl _) (by omega))]
theorem d129 {w v : Int32} (hv : sm v 2) : D129 w v = some (if v = nI 1 then nI 2 * w else w) := by
  obtain ⟨j, h1, rfl⟩ := hv
  have hj : j = 0 ∨ j = 1 := by omega
  rcases hj with rfl | rfl <;> rfl
theorem vsm (V : rv f) {c : Nat} (h : c < 4) : sm (f (97 + 5 * c + 1)) 2 := (V.2.1.1 c h).2.1
/-- how much a courier may carry -/
def mx (f : Nat → Int32) (c : Nat) : Int32 := if f (97 + 5 * c + 1) = nI 1 then nI 2 * f 166 else f 166
theorem d45 (R : RC m 1 f) (V : rv f) {c : Nat} (h : c < 4) : D45 m (nI c) = some (mx f c) := by
  unfold D45
  rw [d3 R V h]
  show (D129 (rI m 1 5) (f (97 + 5 * c + 1))).bind _ = _
  rw [d129 (vsm V h), R.cp]
  rfl
theorem spt_w (V : rv f) {p : Nat} (hp : p < pN f) : (nI 10 ≤ spt f p) = (f (118 + 6 * p + 4) ≠ nI 0) := by
  obtain ⟨⟨j, h4, e4⟩, -, -, -, -, h5⟩ := V.2.2.1.2.2 p hp
  unfold spt
  by_cases q1 : f (118 + 6 * p + 4) = nI 0
  · rw [if_pos q1, e4, nI_leI (by omega) (by omega)]
    simp only [q1, ne_eq, not_true, eq_iff_iff, iff_false]
    omega
  · obtain ⟨b, h6, e6⟩ := h5 q1
    rw [if_neg q1, e6, nI_add, nI_add]
    simp only [ne_eq, q1, not_false_iff, eq_iff_iff, iff_true]
    split <;> exact (nI_leI (by omega) (by omega)).mpr (by omega)
theorem st3 (V : rv f) {p : Nat} (hp : p < pN f) : f (118 + 6 * p + 4) = nI 0 ∨ f (118 + 6 * p + 4) = nI 1 ∨ f (118 + 6 * p + 4) = nI 2 := by
  obtain ⟨-, -, -, -, ⟨j, h1, e⟩, -⟩ := V.2.2.1.2.2 p hp
  rw [e]
  have : j = 0 ∨ j = 1 ∨ j = 2 := by omega
  rcases this with rfl | rfl | rfl
  · exact .inl rfl
  · exact .inr (.inl rfl)
  · exact .inr (.inr rfl)
theorem spt_d (V : rv f) {p : Nat} (hp : p < pN f) : (spt f p < nI 14) = (f (118 + 6 * p + 4) ≠ nI 2) := by
  have h3 := st3 V hp
  obtain ⟨⟨j, h4, e4⟩, -, -, -, -, h5⟩ := V.2.2.1.2.2 p hp
  unfold spt
  by_cases q1 : f (118 + 6 * p + 4) = nI 0
  · rw [if_pos q1, e4, nI_ltI (by omega) (by omega)]
    simp only [q1, ne_eq, eq_iff_iff]
    exact ⟨fun _ => by decide, fun _ => by omega⟩
  · obtain ⟨b, h6, e6⟩ := h5 q1
    rw [if_neg q1, e6, nI_add, nI_add]
    by_cases q2 : f (118 + 6 * p + 4) = nI 1
    · rw [if_pos q2, nI_ltI (by omega) (by omega)]
      simp only [q2, ne_eq, eq_iff_iff]
      exact ⟨fun _ => by decide, fun _ => by omega⟩
    · rw [if_neg q2, nI_ltI (by omega) (by omega)]
      have q3 := (h3.resolve_left q1).resolve_left q2
      simp only [q3, ne_eq, not_true, eq_iff_iff, iff_false]
      omega
theorem d31 (R : RC m 1 f) (V : rv f) {p : Nat} (hp : p < pN f) : D31 m (nI p) = some (if f (118 + 6 * p + 4) = nI 0 then nI 1 else nI 0) := by
  have h8 := V.p8
  unfold D31
  rw [d29 R V hp, gI_n (by omega) (by omega), R.sp (by omega) hp]
  simp only [Option.bind_some, n10, if_false, spt_w V hp]
  by_cases q : f (118 + 6 * p + 4) = nI 0
  · simp [q, gB_1]
  · simp [q, gB_0]
theorem d32 (R : RC m 1 f) (V : rv f) {p : Nat} (hp : p < pN f) : D32 m (nI p) = some (if f (118 + 6 * p + 4) = nI 2 then nI 1 else nI 0) := by
  have h8 := V.p8
  unfold D32
  rw [d29 R V hp, gI_n (by omega) (by omega), R.sp (by omega) hp]
  simp only [Option.bind_some, n10, if_false, spt_d V hp]
  by_cases q : f (118 + 6 * p + 4) = nI 2
  · simp [q, gB_1]
  · simp [q, gB_0]
theorem bysm (V : rv f) {p : Nat} (hp : p < pN f) (h : f (118 + 6 * p + 4) ≠ nI 0) : sm (f (118 + 6 * p + 5)) 4 := (V.2.2.1.2.2 p hp).2.2.2.2.2 h
theorem d33 (R : RC m 1 f) (V : rv f) {p : Nat} (hp : p < pN f) : D33 m (nI p) = some (if f (118 + 6 * p + 4) = nI 0 then -1 else f (118 + 6 * p + 5)) := by
  have h8 := V.p8
  unfold D33
  rw [d29 R V hp, gI_n (by omega) (by omega), R.sp (by omega) hp]
  simp only [Option.bind_some, n10, if_false, spt_w V hp]
  by_cases q : f (118 + 6 * p + 4) = nI 0
  · simp [q]
  · obtain ⟨b, hb, e⟩ := bysm V hp q
    simp only [ne_eq, q, not_false_iff, if_true, if_false]
    have q4 : (nI 14 ≤ spt f p) = (f (118 + 6 * p + 4) = nI 2) := by
      rw [← Int32.not_lt, spt_d V hp]
      simp
    simp only [q4, iff_some, Option.bind_some]
    unfold spt
    rw [if_neg q, e, nI_add, nI_add]
    rcases (st3 V hp).resolve_left q with h1 | h1
    · rw [if_pos h1, h1, if_neg (by decide), nI_sub (by omega), show 10 + b - 10 = b by omega]
    · rw [h1, if_pos rfl, if_neg (by decide), nI_sub (by omega), show 14 + b - 14 = b by omega]
/-- where a parcel is -/
def plc (f : Nat → Int32) (p : Nat) : Int32 := if f (118 + 6 * p + 4) = nI 0 then f (118 + 6 * p + 0) else if f (118 + 6 * p + 4) = nI 1 then f (97 + 5 * (f (118 + 6 * p + 5)).toNatClampNeg + 0) else f (118 + 6 * p + 1)
theorem bad_m1 {n : Nat} : bad (-1) n := .inl (by decide)
theorem d46 (R : RC m 1 f) (V : rv f) {p : Nat} (hp : p < pN f) : D46 m (nI p) = some (plc f p) := by
  have h8 := V.p8
  unfold D46
  rw [d29 R V hp, d32 R V hp, d33 R V hp]
  simp only [Option.bind_some, n10, if_false, it0]
  unfold plc
  by_cases q : f (118 + 6 * p + 4) = nI 0
  · rw [q, if_pos (by decide), if_pos rfl, if_pos rfl, d128b bad_m1, gI_n (by omega) (by omega), R.sp (by omega) hp]
    unfold spt
    rw [if_pos q]
    rfl
  · rw [if_neg q, if_neg q]
    obtain ⟨b, hb, e⟩ := bysm V hp q
    rcases (st3 V hp).resolve_left q with h1 | h1
    · rw [h1, if_pos (by decide), if_pos rfl, e, d128 hb, gI_n hb (by omega), R.at hb, nI_clamp (by omega)]
      rfl
    · rw [h1, if_neg (by decide), if_neg (by decide), gI_n (by omega) (by omega), R.tg (by omega)]
      rfl
end CM
