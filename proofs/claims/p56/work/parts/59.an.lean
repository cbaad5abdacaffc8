/-! ANSWERS of the class, told by its row -/
section AN
variable {m : dM} {f : Nat → Int32}
theorem a89 {n : Nat} {F : Nat → Nat → Int32} (S : SC m n F) : D89 m = some (nI n) := by
  unfold D89
  rw [S.2.1]
theorem a90 (R : RC m 1 f) : D90 m = some (f 0) := by
  unfold D90
  rw [R.sc]
theorem a91 (R : RC m 1 f) (V : rv f) {t : Nat} (ht : t < sN f) : D91 m (nI t) = some (.inl (f (1 + 4 * t))) := by
  have h24 := V.s24
  unfold D91
  rw [d126 R V ht]
  show Option.bind (gI m 3 24 (nI t)) _ = _
  rw [gI_n (by omega) (by omega), R.fr (by omega)]
  rfl
theorem a92 (R : RC m 1 f) (V : rv f) {t : Nat} (ht : t < sN f) : D92 m (nI t) = some (.inl (f (1 + 4 * t + 1))) := by
  have h24 := V.s24
  unfold D92
  rw [d126 R V ht]
  show Option.bind (gI m 4 24 (nI t)) _ = _
  rw [gI_n (by omega) (by omega), R.to (by omega)]
  rfl
theorem a93 (R : RC m 1 f) (V : rv f) {t : Nat} (ht : t < sN f) : D93 m (nI t) = some (.inl (if f (1 + 4 * t + 3) = nI 1 then nI 1 else nI 0)) := by
  have h24 := V.s24
  unfold D93
  rw [d126 R V ht]
  show Option.bind (D62 m (nI t)) _ = _
  rw [d62 R (by omega)]
  show Option.bind (gB (if f (1 + 4 * t + 3) = nI 1 then nI 1 else nI 0)) _ = _
  rw [gB_i]
  rfl
theorem a94 (R : RC m 1 f) {c : Nat} (hc : c < 4) : D94 m (nI c) = some (.inl (f (97 + 5 * c + 0))) := by
  unfold D94
  rw [d124 hc]
  show Option.bind (gI m 6 4 (nI c)) _ = _
  rw [gI_n hc (by omega), R.at hc]
  rfl
theorem a95 (R : RC m 1 f) (V : rv f) {c : Nat} (hc : c < 4) : D95 m (nI c) = some (.inl (f (97 + 5 * c + 1))) := by
  unfold D95
  rw [d124 hc]
  show Option.bind (D3 m (nI c)) _ = _
  rw [d3 R V hc]
  show Option.bind (gB (f (97 + 5 * c + 1))) _ = _
  rw [gB_sm (vsm V hc)]
  rfl
theorem a96 (R : RC m 1 f) (V : rv f) {c : Nat} (hc : c < 4) : D96 m (nI c) = some (.inl (ld f (nI c) (pN f))) := by
  unfold D96
  rw [d124 hc]
  show Option.bind (D34 m (nI c)) _ = _
  rw [d34 R V hc]
  rfl
theorem a97 (R : RC m 1 f) {c : Nat} (hc : c < 4) : D97 m (nI c) = some (.inl (if f (97 + 5 * c + 2) = -1 then nI 0 else nI 1)) := by
  unfold D97
  rw [d124 hc]
  show Option.bind (gI m 7 4 (nI c)) _ = _
  rw [gI_n hc (by omega), R.od hc]
  show Option.bind (if f (97 + 5 * c + 2) = -1 then some (nI 0) else some (nI 1)) _ = _
  rw [iff_some]
  show Option.bind (gB (if f (97 + 5 * c + 2) = -1 then nI 0 else nI 1)) _ = _
  rw [gB_j]
  rfl
theorem a98 (R : RC m 1 f) {c : Nat} (hc : c < 4) (q : ¬ f (97 + 5 * c + 2) = -1) : D98 m (nI c) = some (.inl (f (97 + 5 * c + 2))) := by
  unfold D98
  rw [d124 hc]
  show Option.bind (gI m 7 4 (nI c)) _ = _
  rw [gI_n hc (by omega), R.od hc]
  show (if f (97 + 5 * c + 2) = -1 then _ else _) = _
  rw [if_neg q]
  rfl
theorem a99 (R : RC m 1 f) {c : Nat} (hc : c < 4) : D99 m (nI c) = some (.inl (f (97 + 5 * c + 3))) := by
  unfold D99
  rw [d124 hc]
  show Option.bind (gI m 8 4 (nI c)) _ = _
  rw [gI_n hc (by omega), R.mv hc]
  rfl
theorem a100 (R : RC m 1 f) {c : Nat} (hc : c < 4) : D100 m (nI c) = some (.inl (f (97 + 5 * c + 4))) := by
  unfold D100
  rw [d124 hc]
  show Option.bind (gI m 9 4 (nI c)) _ = _
  rw [gI_n hc (by omega), R.oc hc]
  rfl
theorem a101 (R : RC m 1 f) : D101 m = some (f 117) := by
  unfold D101
  rw [R.pc]
theorem a102 (R : RC m 1 f) (V : rv f) {p : Nat} (hp : p < pN f) : D102 m (nI p) = some (.inl (if f (118 + 6 * p + 4) = nI 0 then nI 1 else nI 0)) := by
  unfold D102
  rw [d127 R V hp]
  show Option.bind (D31 m (nI p)) _ = _
  rw [d31 R V hp]
  show Option.bind (gB (if f (118 + 6 * p + 4) = nI 0 then nI 1 else nI 0)) _ = _
  rw [gB_i]
  rfl
theorem a103 (R : RC m 1 f) (V : rv f) {p : Nat} (hp : p < pN f) : D103 m (nI p) = some (.inl (if f (118 + 6 * p + 4) = nI 2 then nI 1 else nI 0)) := by
  unfold D103
  rw [d127 R V hp]
  show Option.bind (D32 m (nI p)) _ = _
  rw [d32 R V hp]
  show Option.bind (gB (if f (118 + 6 * p + 4) = nI 2 then nI 1 else nI 0)) _ = _
  rw [gB_i]
  rfl
theorem a104 (R : RC m 1 f) (V : rv f) {p : Nat} (hp : p < pN f) (q : ¬ f (118 + 6 * p + 4) = nI 0) : D104 m (nI p) = some (.inl (f (118 + 6 * p + 5))) := by
  unfold D104
  rw [d127 R V hp]
  show Option.bind (D31 m (nI p)) _ = _
  rw [d31 R V hp, if_neg q]
  show Option.bind (D33 m (nI p)) _ = _
  rw [d33 R V hp, if_neg q]
  rfl
theorem a105 (R : RC m 1 f) (V : rv f) {p : Nat} (hp : p < pN f) : D105 m (nI p) = some (.inl (plc f p)) := by
  unfold D105
  rw [d127 R V hp]
  show Option.bind (D46 m (nI p)) _ = _
  rw [d46 R V hp]
  rfl
theorem a106 (R : RC m 1 f) {j : Nat} (hj : j < 2) : D106 m (nI j) = some (.inl (f (170 + j))) := by
  unfold D106
  rw [d125 hj]
  show Option.bind (gI m 17 2 (nI j)) _ = _
  rw [gI_n hj (by omega), R.pt hj]
  rfl
theorem a107 (R : RC m 1 f) (V : rv f) {j : Nat} (hj : j < 2) : D107 m (nI j) = some (.inl (vd f j (pN f))) := by
  unfold D107
  rw [d125 hj]
  show Option.bind (D36 m (nI j)) _ = _
  rw [d36 R V hj]
  rfl
theorem a108 (R : RC m 1 f) : D108 m = some (f 168) := by
  unfold D108
  rw [R.tn]
theorem a109 (R : RC m 1 f) : D109 m = some (f 169) := by
  unfold D109
  rw [R.fl]
theorem a110 (R : RC m 1 f) (V : rv f) : D110 m = some (nI (tmN f (nI (f1 f)) (nI (f2 f)))) := by
  unfold D110
  rw [d42 R V]
  show Option.bind (D24 m (lN (fL1 f))) _ = _
  rw [d24 R V (nowN V)]
  rfl
theorem a111 (R : RC m 1 f) (V : rv f) : D111 m = some (nI (unR f (tN f))) := by
  unfold D111
  rw [d25 R V]
  rfl
theorem a112 (R : RC m 1 f) (V : rv f) : D112 m = some (nI (ov f)) := by
  unfold D112
  rw [d44 R V]
  rfl
theorem a113 (R : RC m 1 f) (V : rv f) {c : Nat} (hc : c < 4) : ∃ y, D113 m (nI c) = some (.inl y) ∧ mk y (rc f (f (97 + 5 * c + 1)) (aV f c) 10) := by
  obtain ⟨y, ey, hy⟩ := d66 R V (vsm V hc) (aV_lt V.2.1 hc)
  refine ⟨y, ?_, hy⟩
  unfold D113
  rw [d124 hc]
  show Option.bind (gI m 6 4 (nI c)) _ = _
  rw [gI_n hc (by omega), R.at hc, aV_e V.2.1 hc, d3 R V hc]
  show Option.bind (D66 m (nI (aV f c)) (f (97 + 5 * c + 1))) _ = _
  rw [ey]
  rfl
theorem a114 (R : RC m 1 f) (V : rv f) {c : Nat} (hc : c < 4) : ∃ y m', D114 m (nI c) = some (.inl y, m') ∧ chg (fun b => b = 44) m m' ∧ mk y (rc f (f (97 + 5 * c + 1)) (aV f c) 10) := by
  obtain ⟨y, m2, ey, c2, hy⟩ := d67 R V (vsm V hc) (aV_lt V.2.1 hc)
  refine ⟨y, m2, ?_, c2, hy⟩
  unfold D114
  rw [d124 hc]
  show Option.bind (gI m 6 4 (nI c)) _ = _
  rw [gI_n hc (by omega), R.at hc, aV_e V.2.1 hc, d3 R V hc]
  show Option.bind (D67 m (nI (aV f c)) (f (97 + 5 * c + 1))) _ = _
  rw [ey]
  rfl
theorem a115 (R : RC m 1 f) (V : rv f) {c b : Nat} (hc : c < 4) (hb : b < 10) : D115 m (nI c) (nI b) = some (.inl (wy f (f (97 + 5 * c + 1)) (aV f c) b)) := by
  unfold D115
  rw [d124 hc, d123 hb]
  show Option.bind (D53 m (nI c) (nI b)) _ = _
  rw [d53 R V hc hb]
  rfl
theorem a116 (R : RC m 1 f) (V : rv f) {c b : Nat} (hc : c < 4) (hb : b < 10) (q : nI 0 < wy f (f (97 + 5 * c + 1)) (aV f c) b) : ∃ x, D116 m (nI c) (nI b) = some (.inl x) ∧ FS f c b (wy f (f (97 + 5 * c + 1)) (aV f c) b) 0 x := by
  obtain ⟨x, ex, hx⟩ := d54 R V hc hb (w := wy f (f (97 + 5 * c + 1)) (aV f c) b)
  refine ⟨x, ?_, hx⟩
  unfold D116
  rw [d124 hc, d123 hb]
  show Option.bind (D53 m (nI c) (nI b)) _ = _
  rw [d53 R V hc hb]
  show (if nI 0 < wy f (f (97 + 5 * c + 1)) (aV f c) b then Option.bind (D54 m (nI c) (nI b) (wy f (f (97 + 5 * c + 1)) (aV f c) b)) _ else _) = _
  rw [if_pos q, ex]
  rfl
theorem a118 (R : RC m 1 f) (V : rv f) {c t : Nat} (hc : c < 4) (ht : t < sN f) : D118 m (nI c) (nI t) = some (.inl (nI (why f c t))) := by
  unfold D118
  rw [d124 hc, d126 R V ht]
  show Option.bind (D51 m (nI c) (nI t)) _ = _
  rw [d51 R V hc ht]
  rfl
theorem a119 (R : RC m 1 f) (V : rv f) {c : Nat} (hc : c < 4) : ∃ m', D119 m (nI c) = some (.inl (fin f c), m') ∧ chg (fun b => 37 ≤ b ∧ b ≤ 41) m m' := by
  obtain ⟨m2, e2, c2, h2⟩ := d7 R V
  refine ⟨m2, ?_, c2⟩
  unfold D119
  rw [d124 hc]
  show Option.bind (D7 m) _ = _
  rw [e2]
  show Option.bind (gI m2 40 4 (nI c)) _ = _
  rw [gI_n hc (by omega), (h2 c hc).1]
  rfl
end AN
