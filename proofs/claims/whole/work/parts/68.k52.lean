/-! THE DIGEST: the reference's whole; the case -/
section DY
variable {m m0 m1 : dM} {s : gS} {f g : Nat → Int32} {X : Nat × (Nat → Int32)} {i c p b L : Nat} {cs : Nat → Int32} {h : Int64}
theorem rH.c6 (r : rH m0 m h) (j : Nat) : rI m 130 j = rI m0 130 j := r.2.1 j
set_option maxRecDepth 16384 in
theorem v244 (hM : IM m s) (V : rv s.1) (l60 : s.2.2.2.2.2.1 ≤ 60) {Y : Nat → Int32} (hY : ∀ c, c < 4 → mk (Y c) (rc s.1 (s.1 (97 + 5 * c + 1)) (aV s.1 c) 10)) {n : Nat} (hn : n < 161) (hl : ldS s.1 4 = nI n) {bb dd : Int64} (hb : D241 (FP.f2d (fq n)) (nI 23) (nI 127) = some bb) (hd : D241 (dsh s.1) (nI 52) (nI 1023) = some dd) : ∃ r, D244 m = some r ∧ r.1 = hZ s.1 Y s.2.1 s.2.2.2.2.2.1 s.2.2.2.2.2.2 bb dd ∧ mdq m r.2 := by
  have h24 := V.s24
  have h8 := V.p8
  obtain ⟨m2, e2, c2, w2⟩ := d172 (hM.f7 (v := nI 0)) V
  have q2 : mdq m m2 := mqf c2
  have IM2 := hM.q q2
  have k0 : rI (wL m2 130 13 4357) 131 = s.1 := IM2.e1
  have kf : ∀ b, b < 4 → rI (wL m2 130 13 4357) 135 b = fin s.1 b := w2
  have kn : rI (wL m2 130 13 4357) 130 2 = nI s.2.1 := IM2.2.1.1
  have kB : BM (wL m2 130 13 4357) s.2.2.2.2.2.1 s.2.2.2.2.2.2 := IM2.2.2.2
  have kq : mdq m (wL m2 130 13 4357) := q2.tr ⟨chg.wL chg.rf (.inl rfl), rfl, rfl, rfl⟩
  have r0 : rH (wL m2 130 13 4357) (wL m2 130 13 4357) 4357 := ⟨chg.rf, fun _ => rfl, by rw [rL_ws]; exact if_pos rfl⟩
  unfold D244
  rw [fI_e, Option.bind_some, e2, Option.bind_some, show fL m2 130 13 4357 = some (wL m2 130 13 4357) from rfl, Option.bind_some]
  clear IM2 q2 c2 w2 e2
  generalize wL m2 130 13 4357 = m0 at k0 kf kn kB kq r0
  generalize s.1 = f at *
  generalize s.2.1 = k at *
  generalize s.2.2.2.2.2.1 = L at *
  generalize s.2.2.2.2.2.2 = cs at *
  have row : ∀ {m : dM} {h : Int64}, rH m0 m h → rI m 131 = f := fun r => r.row.trans k0
  obtain ⟨a1, e1, r1⟩ := h242 r0 (f 0).toInt64
  rw [k0, e1, Option.bind_some, row r1]
  obtain ⟨a2, e2, r2⟩ := h242 r1 (f 117).toInt64
  rw [e2, Option.bind_some, row r2]
  obtain ⟨a3, e3, r3⟩ := h242 r2 (f 168).toInt64
  rw [e3, Option.bind_some, row r3]
  obtain ⟨a4, e4, r4⟩ := h242 r3 (f 169).toInt64
  rw [e4, Option.bind_some, d162 (row r4) V.2.1 V.2.2.1, Option.bind_some, d163 (row r4) V.2.2.1, Option.bind_some, d166 (row r4) V, Option.bind_some]
  obtain ⟨a5, e5, r5⟩ := h242 r4 (nI (tmN f (nI (f1 f)) (nI (f2 f)))).toInt64
  rw [e5, Option.bind_some, d167 (row r5) V, Option.bind_some]
  obtain ⟨a6, e6, r6⟩ := h242 r5 (nI (unR f (tN f))).toInt64
  rw [e6, Option.bind_some, d168 (row r6) V, Option.bind_some]
  obtain ⟨a7, e7, r7⟩ := h242 r6 (nI (ov f)).toInt64
  rw [e7, Option.bind_some, row r7]
  obtain ⟨a8, e8, r8⟩ := h242 r7 (f 170).toInt64
  rw [e8, Option.bind_some, row r8]
  obtain ⟨a9, e9, r9⟩ := h242 r8 (f 170).toInt64
  rw [e9, Option.bind_some, row r9]
  obtain ⟨b1, g1, s1⟩ := h242 r9 (f 171).toInt64
  rw [g1, Option.bind_some, row s1]
  obtain ⟨b2, g2, s2⟩ := h242 s1 (f 171).toInt64
  rw [g2, Option.bind_some, s2.c6 2, kn]
  obtain ⟨b3, g3, s3⟩ := h242 s2 (nI k).toInt64
  rw [g3, Option.bind_some]
  replace s3 : rH m0 b3 (hA f k) := s3
  clear r0 r1 r2 r3 r4 r5 r6 r7 r8 r9 s1 s2 e1 e2 e3 e4 e5 e6 e7 e8 e9 g1 g2 g3
  refine lpx (fun j t => t.1 = nI j ∧ rH m0 t.2 (hS f (hA f k) j)) (fun m' => rH m0 m' (hS f (hA f k) (sN f))) (sN f) (by omega) ⟨rfl, s3⟩ ?_ ?_ ?_
  · rintro j ⟨t, m3⟩ hj ⟨ht, rt⟩
    replace ht : t = nI j := ht
    replace rt : rH m0 m3 (hS f (hA f k) j) := rt
    subst ht
    left
    dsimp only
    rw [row rt, V.s0, if_neg (nI_ge hj (by omega)), d154 (row rt) (by omega), Option.bind_some]
    obtain ⟨a1, e1, r1⟩ := h242 rt (f (1 + 4 * j)).toInt64
    rw [e1, Option.bind_some, d155 (row r1) (by omega), Option.bind_some]
    obtain ⟨a2, e2, r2⟩ := h242 r1 (f (1 + 4 * j + 1)).toInt64
    rw [e2, Option.bind_some, d157 (row r2) (by omega), Option.bind_some]
    obtain ⟨a3, e3, r3⟩ := h243 r2 (if f (1 + 4 * j + 3) = nI 1 then nI 1 else nI 0)
    rw [e3, Option.bind_some]
    exact ⟨_, rfl, nI_add j 1, r3⟩
  · rintro ⟨t, m3⟩ ⟨ht, rt⟩
    replace ht : t = nI (sN f) := ht
    replace rt : rH m0 m3 (hS f (hA f k) (sN f)) := rt
    subst ht
    refine ⟨m3, ?_, rt⟩
    dsimp only
    rw [row rt, V.s0, if_pos (nI_le (Nat.le_refl _) (by omega))]
  clear s3
  intro b4 s4
  try dsimp only
  refine lpx (fun c t => t.1 = nI c ∧ rH m0 t.2 (hC f Y (hS f (hA f k) (sN f)) c)) (fun m' => rH m0 m' (hC f Y (hS f (hA f k) (sN f)) 4)) 4 (by omega) ⟨rfl, s4⟩ ?_ ?_ ?_
  · rintro c ⟨t, m3⟩ hc ⟨ht, rt⟩
    replace ht : t = nI c := ht
    replace rt : rH m0 m3 (hC f Y (hS f (hA f k) (sN f)) c) := rt
    subst ht
    left
    obtain ⟨m', e, r'⟩ := r_c k0 kf V hc (hY c hc) rt
    refine ⟨(nI (c + 1), m'), ?_, rfl, r'⟩
    dsimp only
    rw [if_neg (nI_ge hc (by omega))]
    exact e
  · rintro ⟨t, m3⟩ ⟨ht, rt⟩
    replace ht : t = nI 4 := ht
    subst ht
    refine ⟨m3, ?_, rt⟩
    dsimp only
    rw [if_pos (nI_le (Nat.le_refl 4) (by omega))]
  clear s4
  intro b5 s5
  generalize hh : hC f Y (hS f (hA f k) (sN f)) 4 = h1 at s5
  try dsimp only
  refine lpx (fun p t => t.1 = nI p ∧ rH m0 t.2 (hP f h1 p)) (fun m' => rH m0 m' (hP f h1 (pN f))) (pN f) (by omega) ⟨rfl, s5⟩ ?_ ?_ ?_
  · rintro p ⟨t, m3⟩ hp ⟨ht, rt⟩
    replace ht : t = nI p := ht
    replace rt : rH m0 m3 (hP f h1 p) := rt
    subst ht
    left
    dsimp only
    rw [row rt, V.p0, if_neg (nI_ge hp (by omega)), d152 (row rt) (by omega) (by omega), Option.bind_some, iff_some, Option.bind_some]
    obtain ⟨a1, e1, r1⟩ := h243 rt (if f (118 + 6 * p + 4) = nI 0 then nI 1 else nI 0)
    rw [e1, Option.bind_some, d152 (row r1) (by omega) (by omega), Option.bind_some, iff_some, Option.bind_some]
    obtain ⟨a2, e2, r2⟩ := h243 r1 (if f (118 + 6 * p + 4) = nI 2 then nI 1 else nI 0)
    rw [e2, Option.bind_some, d218 (row r2) V hp, Option.bind_some]
    obtain ⟨a3, e3, r3⟩ := h242 r2 (plc f p).toInt64
    rw [e3, Option.bind_some, d152 (row r3) (by omega) (by omega), Option.bind_some]
    by_cases q : f (118 + 6 * p + 4) = nI 0
    · rw [if_pos q, Option.bind_some]
      refine ⟨_, rfl, nI_add p 1, ?_⟩
      rw [show hP f h1 (p + 1) = _ from if_pos q]
      exact r3
    · obtain ⟨a4, e4, r4⟩ := h242 r3 (f (118 + 6 * p + 5)).toInt64
      rw [if_neg q, d152 (row r3) (by omega) (by omega), Option.bind_some, e4, Option.bind_some, Option.bind_some]
      refine ⟨_, rfl, nI_add p 1, ?_⟩
      rw [show hP f h1 (p + 1) = _ from if_neg q]
      exact r4
  · rintro ⟨t, m3⟩ ⟨ht, rt⟩
    replace ht : t = nI (pN f) := ht
    replace rt : rH m0 m3 (hP f h1 (pN f)) := rt
    subst ht
    refine ⟨m3, ?_, rt⟩
    dsimp only
    rw [row rt, V.p0, if_pos (nI_le (Nat.le_refl _) (by omega))]
  clear s5
  intro b6 s6
  try dsimp only
  rw [row s6, iff_some, Option.bind_some]
  obtain ⟨a1, e1, r1⟩ := h243 s6 (if f 172 = nI 1 then nI 1 else nI 0)
  rw [e1, Option.bind_some, row r1]
  have e5 : ∃ a5, (if f 172 = (nI 1) then (D242 a1 (f 173).toInt64).bind fun (r75 : dM) => some r75 else some a1) = some a5 ∧ rH m0 a5 (hB f (hP f h1 (pN f))) := by
    unfold hB
    by_cases q : f 172 = nI 1
    · rw [if_pos q] at r1
      rw [if_pos q, if_pos q]
      obtain ⟨a5, e5, r5⟩ := h242 r1 (f 173).toInt64
      rw [e5]
      exact ⟨a5, rfl, r5⟩
    · rw [if_neg q] at r1
      rw [if_neg q, if_neg q]
      exact ⟨a1, rfl, r1⟩
  obtain ⟨a5, e5, r5⟩ := e5
  rw [e5, Option.bind_some, d237 (row r5) V hn hl, Option.bind_some, fq_D hn, Option.bind_some, hb, Option.bind_some]
  obtain ⟨a6, e6, r6⟩ := h242 r5 bb
  rw [e6, Option.bind_some, d238 (row r6) V, Option.bind_some, hd, Option.bind_some]
  obtain ⟨a7, e7, r7⟩ := h242 r6 dd
  rw [e7, Option.bind_some, r7.c6 6, kB.1]
  obtain ⟨a8, e8, r8⟩ := h242 r7 (nI L).toInt64
  rw [e8, Option.bind_some]
  refine lpx (fun j t => t.1 = nI j ∧ rH m0 t.2 (hT cs (hx (hx (hx (hB f (hP f h1 (pN f))) bb) dd) (nI L).toInt64) j)) (fun m' => rH m0 m' (hT cs (hx (hx (hx (hB f (hP f h1 (pN f))) bb) dd) (nI L).toInt64) L)) L (by omega) ⟨rfl, r8⟩ ?_ ?_ ?_
  · rintro j ⟨t, m3⟩ hj ⟨ht, rt⟩
    replace ht : t = nI j := ht
    replace rt : rH m0 m3 (hT cs (hx (hx (hx (hB f (hP f h1 (pN f))) bb) dd) (nI L).toInt64) j) := rt
    subst ht
    left
    dsimp only
    rw [rt.c6 6, kB.1, if_neg (nI_ge hj (by omega)), gI_n (by omega) (by omega), rt.1.1 134 (by omega), kB.2 j hj, Option.bind_some]
    obtain ⟨a1, e1, r1⟩ := h242 rt (cs j).toInt64
    rw [e1, Option.bind_some]
    exact ⟨_, rfl, nI_add j 1, r1⟩
  · rintro ⟨t, m3⟩ ⟨ht, rt⟩
    replace ht : t = nI L := ht
    replace rt : rH m0 m3 (hT cs (hx (hx (hx (hB f (hP f h1 (pN f))) bb) dd) (nI L).toInt64) L) := rt
    subst ht
    refine ⟨m3, ?_, rt⟩
    dsimp only
    rw [rt.c6 6, kB.1, if_pos (nI_le (Nat.le_refl _) (by omega))]
  · intro b7 s7
    try dsimp only
    refine ⟨_, rfl, ?_, ?_⟩
    · show rL b7 130 13 = _
      rw [s7.2.2]
      unfold hZ
      rw [hh]
    · exact kq.tr ⟨s7.1.mono (fun b q => by omega), s7.2.1 2, s7.2.1 4, s7.2.1 6⟩
theorem k52 (h : INV m) : OK m (C52 X m (nI i)) := by
  unfold C52
  obtain ⟨s, hC, hM⟩ := h
  have R := hC.R
  have V := hC.V
  obtain ⟨n, hn, hl⟩ := lds_b V
  obtain ⟨b, hb1, hb2⟩ := fb_e hn
  obtain ⟨d, hd1, hd2⟩ := db_e V
  have hY : ∀ c, ∃ y, c < 4 → mk y (rc s.1 (s.1 (97 + 5 * c + 1)) (aV s.1 c) 10) := fun c => by
    by_cases q : c < 4
    · obtain ⟨z, ez, hz⟩ := d66 R V (vsm V q) (aV_lt V.2.1 q)
      exact ⟨z, fun _ => hz⟩
    · exact ⟨nI 0, fun z => absurd z q⟩
  obtain ⟨Y, hY⟩ := Classical.axiomOfChoice hY
  obtain ⟨r, er, m1, rfl, c1⟩ := v122 R V hC.2.2.2.2 hC.2.2.1.2.1 hY hn hl hb1 hd1
  have IC1 : IC m1 s := hC.th (c1.mono (fun b q => by unfold SS at q; omega))
  have IM1 : IM m1 s := hM.c (c1.v.mono (fun b q => by unfold SS at q; unfold cC; omega))
  obtain ⟨⟨v, m2⟩, e2, hv, q2⟩ := v244 IM1 V hC.2.2.2.2.1 hY hn hl hb2 hd2
  replace hv : v = _ := hv
  subst hv
  refine ⟨m2, ?_, ⟨s, IC1.m q2.cM.v q2.cM.2.2.1, IM1.q q2⟩, .inl (q2.cM.2.2.2.trans c1.2.2.2)⟩
  rw [er, cGl, e2, Option.bind_some]
  dsimp only
  rw [if_pos (lg0.mpr rfl)]
end DY
