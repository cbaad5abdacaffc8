/-! THE DIGEST: what is told, in its order; the class's -/
def hx (h v : Int64) : Int64 := 31 * h + v
def q1 (x : Int32) : Int64 := if x = nI 0 then 0 else 1
def hA (f : Nat → Int32) (n : Nat) : Int64 := hx (hx (hx (hx (hx (hx (hx (hx (hx (hx (hx (hx 4357 (f 0).toInt64) (f 117).toInt64) (f 168).toInt64) (f 169).toInt64) (nI (tmN f (nI (f1 f)) (nI (f2 f)))).toInt64) (nI (unR f (tN f))).toInt64) (nI (ov f)).toInt64) (f 170).toInt64) (f 170).toInt64) (f 171).toInt64) (f 171).toInt64) (nI n).toInt64
def hS (f : Nat → Int32) (h : Int64) : Nat → Int64
  | 0 => h
  | k + 1 => hx (hx (hx (hS f h k) (f (1 + 4 * k)).toInt64) (f (1 + 4 * k + 1)).toInt64) (q1 (if f (1 + 4 * k + 3) = nI 1 then nI 1 else nI 0))
noncomputable def hW (f : Nat → Int32) (c : Nat) (h : Int64) : Nat → Int64
  | 0 => h
  | j + 1 => hx (hW f c h j) (wy f (f (97 + 5 * c + 1)) (aV f c) j).toInt64
def hO (f : Nat → Int32) (c : Nat) (h : Int64) : Int64 := if f (97 + 5 * c + 2) = -1 then h else hx h (f (97 + 5 * c + 2)).toInt64
noncomputable def hC1 (f : Nat → Int32) (c : Nat) (y : Int32) (h : Int64) : Int64 := hW f c (hx (hx (hx (hx (hx (hO f c (hx (hx (hx (hx h (f (97 + 5 * c + 0)).toInt64) (q1 (f (97 + 5 * c + 1)))) (ld f (nI c) (pN f)).toInt64) (q1 (if f (97 + 5 * c + 2) = -1 then nI 0 else nI 1)))) (f (97 + 5 * c + 3)).toInt64) (f (97 + 5 * c + 4)).toInt64) y.toInt64) y.toInt64) (fin f c).toInt64) 10
noncomputable def hC (f : Nat → Int32) (Y : Nat → Int32) (h : Int64) : Nat → Int64
  | 0 => h
  | c + 1 => hC1 f c (Y c) (hC f Y h c)
def hP (f : Nat → Int32) (h : Int64) : Nat → Int64
  | 0 => h
  | p + 1 => if f (118 + 6 * p + 4) = nI 0 then hx (hx (hx (hP f h p) (q1 (if f (118 + 6 * p + 4) = nI 0 then nI 1 else nI 0))) (q1 (if f (118 + 6 * p + 4) = nI 2 then nI 1 else nI 0))) (plc f p).toInt64 else hx (hx (hx (hx (hP f h p) (q1 (if f (118 + 6 * p + 4) = nI 0 then nI 1 else nI 0))) (q1 (if f (118 + 6 * p + 4) = nI 2 then nI 1 else nI 0))) (plc f p).toInt64) (f (118 + 6 * p + 5)).toInt64
def hB (f : Nat → Int32) (h : Int64) : Int64 := if f 172 = nI 1 then hx (hx h 1) (f 173).toInt64 else hx h 0
def hT (cs : Nat → Int32) (h : Int64) : Nat → Int64
  | 0 => h
  | j + 1 => hx (hT cs h j) (cs j).toInt64
theorem cTl {α β : Type} {m : dM} {v : α} {k : α → Option β} {x : Nat → dM → Option β} : cT (some (.inl v)) m k x = k v := rfl
theorem cGl {α β : Type} {m : dM} {v : α} {k : α → dM → Option β} {x : Nat → dM → Option β} : cG (some (.inl v, m)) k x = k v m := rfl
theorem lpr {σ β : Type} {F : Nat} {f : σ → Option (σ ⊕ β)} {s0 : σ} {b : β} (St : Nat → σ) (N : Nat) (hF : N < F) (h0 : s0 = St 0) (step : ∀ i, i < N → f (St i) = some (.inl (St (i + 1)))) (fin : f (St N) = some (.inr b)) : lp F f s0 = some b := by
  have k := lpb (K := fun x => some x) b St N hF h0 step fin rfl
  rwa [Option.bind_fun_some] at k
def hA7 (f : Nat → Int32) : Int64 := hx (hx (hx (hx (hx (hx (hx 4357 (f 0).toInt64) (f 117).toInt64) (f 168).toInt64) (f 169).toInt64) (nI (tmN f (nI (f1 f)) (nI (f2 f)))).toInt64) (nI (unR f (tN f))).toInt64) (nI (ov f)).toInt64
def hD (f : Nat → Int32) (h : Int64) : Nat → Int64
  | 0 => h
  | k + 1 => hx (hx (hD f h k) (f (170 + k)).toInt64) (f (170 + k)).toInt64
section DG
variable {m m1 : dM} {s : gS} {f g : Nat → Int32} {X : Nat × (Nat → Int32)} {i c p b L : Nat} {cs : Nat → Int32} {h : Int64}
theorem d137 {v : Int64} : D137 h v = some (hx h v) := rfl
theorem d138 {x : Int32} : D138 h x = some (hx h (q1 x)) := by
  unfold D138
  rw [iff_some]
  rfl
theorem v91 (R : RC m 1 f) (V : rv f) (hc : c < sN f) : D91 m (nI c) = some (.inl (f (1 + 4 * c))) := by
  have h24 := V.s24
  unfold D91
  rw [d126 R V hc]
  show Option.bind (gI m 3 24 (nI c)) _ = _
  rw [gI_n (by omega) (by omega), R.fr (by omega)]
  rfl
theorem v92 (R : RC m 1 f) (V : rv f) (hc : c < sN f) : D92 m (nI c) = some (.inl (f (1 + 4 * c + 1))) := by
  have h24 := V.s24
  unfold D92
  rw [d126 R V hc]
  show Option.bind (gI m 4 24 (nI c)) _ = _
  rw [gI_n (by omega) (by omega), R.to (by omega)]
  rfl
theorem v93 (R : RC m 1 f) (V : rv f) (hc : c < sN f) : D93 m (nI c) = some (.inl (if f (1 + 4 * c + 3) = nI 1 then nI 1 else nI 0)) := by
  have h24 := V.s24
  unfold D93
  rw [d126 R V hc]
  show Option.bind (D62 m (nI c)) _ = _
  rw [d62 R (by omega)]
  show Option.bind (gB (if f (1 + 4 * c + 3) = nI 1 then nI 1 else nI 0)) _ = _
  rw [gB_i]
  rfl
theorem v94 (R : RC m 1 f) (hc : c < 4) : D94 m (nI c) = some (.inl (f (97 + 5 * c + 0))) := by
  unfold D94
  rw [d124 hc]
  show Option.bind (gI m 6 4 (nI c)) _ = _
  rw [gI_n (by omega) (by omega), R.at hc]
  rfl
theorem v95 (R : RC m 1 f) (V : rv f) (hc : c < 4) : D95 m (nI c) = some (.inl (f (97 + 5 * c + 1))) := by
  unfold D95
  rw [d124 hc]
  show Option.bind (D3 m (nI c)) _ = _
  rw [d3 R V hc]
  show Option.bind (gB (f (97 + 5 * c + 1))) _ = _
  rw [gB_sm (vsm V hc)]
  rfl
theorem v96 (R : RC m 1 f) (V : rv f) (hc : c < 4) : D96 m (nI c) = some (.inl (ld f (nI c) (pN f))) := by
  unfold D96
  rw [d124 hc]
  show Option.bind (D34 m (nI c)) _ = _
  rw [d34 R V hc]
  rfl
theorem v97 (R : RC m 1 f) (hc : c < 4) : D97 m (nI c) = some (.inl (if f (97 + 5 * c + 2) = -1 then nI 0 else nI 1)) := by
  unfold D97
  rw [d124 hc]
  show Option.bind (gI m 7 4 (nI c)) _ = _
  rw [gI_n hc (by omega), R.od hc]
  show Option.bind (if f (97 + 5 * c + 2) = -1 then some (nI 0) else some (nI 1)) _ = _
  by_cases q : f (97 + 5 * c + 2) = -1
  · rw [if_pos q, if_pos q]
    rfl
  · rw [if_neg q, if_neg q]
    rfl
theorem v98 (R : RC m 1 f) (hc : c < 4) (q : f (97 + 5 * c + 2) ≠ -1) : D98 m (nI c) = some (.inl (f (97 + 5 * c + 2))) := by
  unfold D98
  rw [d124 hc]
  show Option.bind (gI m 7 4 (nI c)) _ = _
  rw [gI_n hc (by omega), R.od hc]
  show (if f (97 + 5 * c + 2) = -1 then _ else _) = _
  rw [if_neg q]
  rfl
theorem v99 (R : RC m 1 f) (hc : c < 4) : D99 m (nI c) = some (.inl (f (97 + 5 * c + 3))) := by
  unfold D99
  rw [d124 hc]
  show Option.bind (gI m 8 4 (nI c)) _ = _
  rw [gI_n (by omega) (by omega), R.mv hc]
  rfl
theorem v100 (R : RC m 1 f) (hc : c < 4) : D100 m (nI c) = some (.inl (f (97 + 5 * c + 4))) := by
  unfold D100
  rw [d124 hc]
  show Option.bind (gI m 9 4 (nI c)) _ = _
  rw [gI_n (by omega) (by omega), R.oc hc]
  rfl
theorem v102 (R : RC m 1 f) (V : rv f) (hc : c < pN f) : D102 m (nI c) = some (.inl (if f (118 + 6 * c + 4) = nI 0 then nI 1 else nI 0)) := by
  unfold D102
  rw [d127 R V hc]
  show Option.bind (D31 m (nI c)) _ = _
  rw [d31 R V hc]
  show Option.bind (gB (if f (118 + 6 * c + 4) = nI 0 then nI 1 else nI 0)) _ = _
  rw [gB_i]
  rfl
theorem v103 (R : RC m 1 f) (V : rv f) (hc : c < pN f) : D103 m (nI c) = some (.inl (if f (118 + 6 * c + 4) = nI 2 then nI 1 else nI 0)) := by
  unfold D103
  rw [d127 R V hc]
  show Option.bind (D32 m (nI c)) _ = _
  rw [d32 R V hc]
  show Option.bind (gB (if f (118 + 6 * c + 4) = nI 2 then nI 1 else nI 0)) _ = _
  rw [gB_i]
  rfl
theorem v104 (R : RC m 1 f) (V : rv f) (hc : c < pN f) (q : f (118 + 6 * c + 4) ≠ nI 0) : D104 m (nI c) = some (.inl (f (118 + 6 * c + 5))) := by
  unfold D104
  rw [d127 R V hc]
  show Option.bind (D31 m (nI c)) _ = _
  rw [d31 R V hc]
  show (if (if f (118 + 6 * c + 4) = nI 0 then nI 1 else nI 0) = nI 0 then Option.bind (D33 m (nI c)) _ else _) = _
  rw [d33 R V hc, if_neg q, if_neg q, if_pos rfl]
  rfl
theorem v105 (R : RC m 1 f) (V : rv f) (hc : c < pN f) : D105 m (nI c) = some (.inl (plc f c)) := by
  unfold D105
  rw [d127 R V hc]
  show Option.bind (D46 m (nI c)) _ = _
  rw [d46 R V hc]
  rfl
theorem v106 (R : RC m 1 f) (hc : c < 2) : D106 m (nI c) = some (.inl (f (170 + c))) := by
  unfold D106
  rw [d125 hc]
  show Option.bind (gI m 17 2 (nI c)) _ = _
  rw [gI_n hc (by omega), R.pt hc]
  rfl
theorem v107 (R : RC m 1 f) (V : rv f) (hc : c < 2) : D107 m (nI c) = some (.inl (f (170 + c))) := by
  unfold D107
  rw [d125 hc]
  show Option.bind (D36 m (nI c)) _ = _
  rw [d36 R V hc, V.2.2.2.2.2.2.2.2 c hc]
  rfl
theorem v113 (R : RC m 1 f) (V : rv f) (hc : c < 4) {y : Int32} (hy : mk y (rc f (f (97 + 5 * c + 1)) (aV f c) 10)) : D113 m (nI c) = some (.inl y) := by
  obtain ⟨z, ez, hz⟩ := d66 R V (vsm V hc) (aV_lt V.2.1 hc)
  have e : z = y := mk.eq hz hy
  subst e
  unfold D113
  rw [d124 hc]
  show Option.bind (gI m 6 4 (nI c)) _ = _
  rw [gI_n hc (by omega), R.at hc, aV_e V.2.1 hc, d3 R V hc]
  show Option.bind (D66 m (nI (aV f c)) (f (97 + 5 * c + 1))) _ = _
  rw [ez]
  rfl
theorem v114 (R : RC m 1 f) (V : rv f) (hc : c < 4) {y : Int32} (hy : mk y (rc f (f (97 + 5 * c + 1)) (aV f c) 10)) : ∃ m', D114 m (nI c) = some (.inl y, m') ∧ chg (fun b => b = 44) m m' := by
  obtain ⟨z, m2, ez, c2, hz⟩ := d67 R V (vsm V hc) (aV_lt V.2.1 hc)
  have e : z = y := mk.eq hz hy
  subst e
  refine ⟨m2, ?_, c2⟩
  unfold D114
  rw [d124 hc]
  show Option.bind (gI m 6 4 (nI c)) _ = _
  rw [gI_n hc (by omega), R.at hc, aV_e V.2.1 hc, d3 R V hc]
  show Option.bind (D67 m (nI (aV f c)) (f (97 + 5 * c + 1))) _ = _
  rw [ez]
  rfl
theorem v119 (R : RC m 1 f) (V : rv f) (hc : c < 4) : ∃ m', D119 m (nI c) = some (.inl (fin f c), m') ∧ chg (fun b => 37 ≤ b ∧ b ≤ 41) m m' := by
  obtain ⟨m2, e2, c2, h2⟩ := d7 R V
  refine ⟨m2, ?_, c2⟩
  unfold D119
  rw [d124 hc]
  show Option.bind (D7 m) _ = _
  rw [e2]
  show Option.bind (gI m2 40 4 (nI c)) _ = _
  rw [gI_n hc (by omega), (h2 c hc).1]
  rfl
theorem v115 (R : RC m 1 f) (V : rv f) (hc : c < 4) (hb : b < 10) : D115 m (nI c) (nI b) = some (.inl (wy f (f (97 + 5 * c + 1)) (aV f c) b)) := by
  unfold D115
  rw [d124 hc, d123 hb]
  show Option.bind (D53 m (nI c) (nI b)) _ = _
  rw [d53 R V hc hb]
  rfl
set_option maxRecDepth 16384 in
theorem v134 (R : RC m 1 f) (V : rv f) {n : Nat} (h0 : rI m 0 6 = nI n) : D134 m 4357 = some (.inl (hA f n)) := by
  have e90 : D90 m = some (f 0) := by unfold D90; rw [R.sc]
  have e101 : D101 m = some (f 117) := by unfold D101; rw [R.pc]
  have e108 : D108 m = some (f 168) := by unfold D108; rw [R.tn]
  have e109 : D109 m = some (f 169) := by unfold D109; rw [R.fl]
  have e110 : D110 m = some (nI (tmN f (nI (f1 f)) (nI (f2 f)))) := by
    unfold D110
    rw [d42 R V]
    show Option.bind (D24 m (lN (fL1 f))) _ = _
    rw [d24 R V (nowN V)]
    rfl
  have e111 : D111 m = some (nI (unR f (tN f))) := by
    unfold D111
    rw [d25 R V]
    rfl
  have e112 : D112 m = some (nI (ov f)) := by
    unfold D112
    rw [d44 R V]
    rfl
  have e89 : D89 m = some (nI n) := by unfold D89; rw [h0]
  unfold D134
  simp only [e90, e101, e108, e109, e110, e111, e112, d137, Option.bind_some]
  refine lpr (fun k => (hD f (hA7 f) k, nI k)) 2 (by omega) rfl (fun k hk => ?_) ?_
  · dsimp only
    rw [if_neg (nI_ge hk (by omega)), v106 R hk, v107 R V hk, cTl, cTl, nI_add]
    rfl
  · dsimp only
    rw [if_pos (nI_le (Nat.le_refl 2) (by omega)), e89]
    rfl
set_option maxRecDepth 16384 in
theorem v135 (R : RC m 1 f) (V : rv f) (hc : c < 4) {y : Int32} (hy : mk y (rc f (f (97 + 5 * c + 1)) (aV f c) 10)) : ∃ m', D135 m h (nI c) = some (.inl (hC1 f c y h), m') ∧ chg (fun b => (37 ≤ b ∧ b ≤ 41) ∨ b = 44) m m' := by
  obtain ⟨m2, e114, c2⟩ := v114 R V hc hy
  have R2 := R.ch c2 (fun b q1 q2 => by omega)
  obtain ⟨m3, e119, c3⟩ := v119 R2 V hc
  have R3 := R2.ch c3 (fun b q1 q2 => by omega)
  refine ⟨m3, ?_, (c2.mono (fun b q => .inr q)).tr (c3.mono (fun b q => .inl q))⟩
  have hl : ∀ h0 : Int64, lp (β := (Int64 ⊕ Nat) × dM) 3000 (fun (s42 : Int64 × Int32) => if (nI 10) ≤ s42.2 then some (.inr (.inl s42.1, m3)) else cT (D115 m3 (nI c) s42.2) m3 (fun (x43 : Int32) => some (.inl (hx s42.1 x43.toInt64, s42.2 + (nI 1)))) (fun (j44 : Nat) (m45 : dM) => some (.inr (.inr j44, m45)))) (h0, nI 0) = some (.inl (hW f c h0 10), m3) := by
    intro h0
    refine lpr (fun k => (hW f c h0 k, nI k)) 10 (by omega) rfl (fun k hk => ?_) ?_
    · dsimp only
      rw [if_neg (nI_ge hk (by omega)), v115 R3 V hc hk, cTl, nI_add]
      rfl
    · dsimp only
      rw [if_pos (nI_le (Nat.le_refl 10) (by omega))]
  unfold D135
  simp only [v94 R hc, v95 R V hc, v96 R V hc, v97 R hc, v99 R hc, v100 R hc, v113 R V hc hy, e114, e119, d137, d138, Option.bind_some, cTl, cGl, hl]
  unfold hC1 hO
  by_cases q : f (97 + 5 * c + 2) = -1
  · simp only [if_pos q, if_true]
  · simp only [if_neg q, n10, if_false, v98 R hc q, cTl]
theorem v136 (R : RC m 1 f) (V : rv f) (hc : p < pN f) : D136 m (hP f h p) (nI p) = some (.inl (hP f h (p + 1))) := by
  unfold D136
  simp only [v102 R V hc, v103 R V hc, v105 R V hc, d137, d138, Option.bind_some, cTl]
  by_cases q : f (118 + 6 * p + 4) = nI 0
  · rw [show hP f h (p + 1) = _ from if_pos q]
    simp only [if_pos q, n10, if_false]
  · rw [show hP f h (p + 1) = _ from if_neg q]
    simp only [if_neg q, if_true, v104 R V hc q, cTl]
end DG
