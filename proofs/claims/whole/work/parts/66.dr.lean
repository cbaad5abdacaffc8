/-! THE DIGEST: the class's whole, the reference's -/
noncomputable def hZ (f : Nat → Int32) (Y : Nat → Int32) (n L : Nat) (cs : Nat → Int32) (b d : Int64) : Int64 := hT cs (hx (hx (hx (hB f (hP f (hC f Y (hS f (hA f n) (sN f)) 4) (pN f))) b) d) (nI L).toInt64) L
/-- the reference has told so far -/
def rH (m0 m : dM) (h : Int64) : Prop := chg (fun b => b = 130 ∨ b = 137) m0 m ∧ (∀ j, rI m 130 j = rI m0 130 j) ∧ rL m 130 13 = h
section DR
variable {m m0 m1 : dM} {s : gS} {f g : Nat → Int32} {X : Nat × (Nat → Int32)} {i c p b L : Nat} {cs : Nat → Int32} {h : Int64}
theorem h242 (r : rH m0 m h) (v : Int64) : ∃ m', D242 m v = some m' ∧ rH m0 m' (hx h v) := by
  refine ⟨wL m 130 13 (31 * rL m 130 13 + v), rfl, chg.wL r.1 (.inl rfl), r.2.1, ?_⟩
  rw [rL_ws]
  show (if 13 = 13 then 31 * rL m 130 13 + v else _) = _
  rw [if_pos rfl, r.2.2]
  rfl
theorem h243 (r : rH m0 m h) (x : Int32) : ∃ m', D243 m x = some m' ∧ rH m0 m' (hx h (q1 x)) := by
  obtain ⟨m', e, r'⟩ := h242 r (q1 x)
  refine ⟨m', ?_, r'⟩
  unfold D243
  rw [iff_some, Option.bind_some]
  show Option.bind (D242 m (q1 x)) _ = _
  rw [e]
  rfl
theorem rH.rf : rH m0 m0 (rL m0 130 13) := ⟨chg.rf, fun _ => rfl, rfl⟩
theorem rH.row (r : rH m0 m h) : rI m 131 = rI m0 131 := r.1.1 131 (by omega)
theorem rH.n (r : rH m0 m h) {m' : dM} (c : chg (fun b => b = 137) m m') : rH m0 m' h := ⟨r.1.tr (c.mono (fun b q => .inr q)), fun j => (by rw [c.1 130 (by omega)]; exact r.2.1 j), by rw [c.2.1 130 (by omega)]; exact r.2.2⟩
/-- what is known where the telling starts -/
def rK (m0 : dM) (f : Nat → Int32) (n L : Nat) (cs : Nat → Int32) : Prop := rI m0 131 = f ∧ (∀ b, b < 4 → rI m0 135 b = fin f b) ∧ rI m0 130 2 = nI n ∧ BM m0 L cs ∧ L ≤ 60
theorem q1_v {x : Int32} (hx : sm x 2) : q1 (if x = nI 1 then nI 1 else nI 0) = q1 x := by
  obtain ⟨j, hj, rfl⟩ := hx
  have : j = 0 ∨ j = 1 := by omega
  rcases this with rfl | rfl <;> rfl
set_option maxRecDepth 16384 in
/-- one courier is told -/
theorem r_c (k : rI m0 131 = f) (kf : ∀ b, b < 4 → rI m0 135 b = fin f b) (V : rv f) (hc : c < 4) {y : Int32} (hy : mk y (rc f (f (97 + 5 * c + 1)) (aV f c) 10)) (r : rH m0 m h) : ∃ m', ((D150 m (nI c) (nI 0)).bind fun (x31 : Int32) => (D242 m x31.toInt64).bind fun (r32 : dM) => (D150 r32 (nI c) (nI 1)).bind fun (x33 : Int32) => Option.bind ((if x33 = (nI 1) then some (nI 1) else some (nI 0)) : Option (Int32)) fun (v34 : Int32) => (D243 r32 v34).bind fun (r35 : dM) => (D158 r35 (nI c)).bind fun (x36 : Int32) => (D242 r35 x36.toInt64).bind fun (r37 : dM) => (D150 r37 (nI c) (nI 2)).bind fun (x38 : Int32) => Option.bind ((if x38 = (-1) then some (nI 0) else some (nI 1)) : Option (Int32)) fun (v39 : Int32) => (D243 r37 v39).bind fun (r40 : dM) => (D150 r40 (nI c) (nI 2)).bind fun (x41 : Int32) => Option.bind ((if x41 = (-1) then some r40 else (D150 r40 (nI c) (nI 2)).bind fun (x43 : Int32) => (D242 r40 x43.toInt64).bind fun (r44 : dM) => some r44) : Option (dM)) fun (v42 : dM) => (D150 v42 (nI c) (nI 3)).bind fun (x45 : Int32) => (D242 v42 x45.toInt64).bind fun (r46 : dM) => (D150 r46 (nI c) (nI 4)).bind fun (x47 : Int32) => (D242 r46 x47.toInt64).bind fun (r48 : dM) => (D228 r48 (nI c)).bind fun (r49 : Int32 × dM) => (D242 r49.2 r49.1.toInt64).bind fun (r50 : dM) => (D242 r50 r49.1.toInt64).bind fun (r51 : dM) => (gI r51 135 4 (nI c)).bind fun (x52 : Int32) => (D242 r51 x52.toInt64).bind fun (r53 : dM) => Option.bind (lp (β := dM) 3000 (fun (s54 : Int32 × dM) => if (nI 10) ≤ s54.1 then some (.inr s54.2) else (gI s54.2 137 10 s54.1).bind fun (x56 : Int32) => (D242 s54.2 x56.toInt64).bind fun (r57 : dM) => some (.inl (s54.1 + (nI 1), r57))) (nI 0, r53)) fun (v55 : dM) => some (Sum.inl (β := dM) (nI c + (nI 1), v55))) = some (.inl (nI (c + 1), m')) ∧ rH m0 m' (hC1 f c y h) := by
  have row : ∀ {m : dM} {h : Int64}, rH m0 m h → rI m 131 = f := fun r => r.row.trans k
  obtain ⟨a1, e1, r1⟩ := h242 r (f (97 + 5 * c + 0)).toInt64
  rw [d150 (row r) hc (by omega), Option.bind_some, e1, Option.bind_some, d150 (row r1) hc (by omega), Option.bind_some, iff_some, Option.bind_some]
  obtain ⟨a2, e2, r2⟩ := h243 r1 (if f (97 + 5 * c + 1) = nI 1 then nI 1 else nI 0)
  rw [q1_v (vsm V hc)] at r2
  rw [e2, Option.bind_some, d158 (row r2) V.p0 V.p8, Option.bind_some]
  obtain ⟨a3, e3, r3⟩ := h242 r2 (ld f (nI c) (pN f)).toInt64
  rw [e3, Option.bind_some, d150 (row r3) hc (by omega), Option.bind_some, iff_some, Option.bind_some]
  obtain ⟨a4, e4, r4⟩ := h243 r3 (if f (97 + 5 * c + 2) = -1 then nI 0 else nI 1)
  rw [e4, Option.bind_some, d150 (row r4) hc (by omega), Option.bind_some, Option.bind_some]
  have e5 : ∃ a5, (if f (97 + 5 * c + 2) = (-1) then some a4 else (D242 a4 (f (97 + 5 * c + 2)).toInt64).bind fun (r44 : dM) => some r44) = some a5 ∧ rH m0 a5 (hO f c (hx (hx (hx (hx h (f (97 + 5 * c + 0)).toInt64) (q1 (f (97 + 5 * c + 1)))) (ld f (nI c) (pN f)).toInt64) (q1 (if f (97 + 5 * c + 2) = -1 then nI 0 else nI 1)))) := by
    unfold hO
    by_cases q : f (97 + 5 * c + 2) = -1
    · rw [if_pos q, if_pos q]
      exact ⟨a4, rfl, r4⟩
    · obtain ⟨a5, e5, r5⟩ := h242 r4 (f (97 + 5 * c + 2)).toInt64
      rw [if_neg q, if_neg q, e5]
      exact ⟨a5, rfl, r5⟩
  obtain ⟨a5, e5, r5⟩ := e5
  rw [e5, Option.bind_some, d150 (row r5) hc (by omega), Option.bind_some]
  obtain ⟨a6, e6, r6⟩ := h242 r5 (f (97 + 5 * c + 3)).toInt64
  rw [e6, Option.bind_some, d150 (row r6) hc (by omega), Option.bind_some]
  obtain ⟨a7, e7, r7⟩ := h242 r6 (f (97 + 5 * c + 4)).toInt64
  rw [e7, Option.bind_some]
  obtain ⟨x, a8, e8, c8, hx8, w8⟩ := d228 (row r7) V hc
  have ex : x = y := mk.eq hx8 hy
  subst ex
  have r8 := r7.n c8
  rw [e8, Option.bind_some]
  obtain ⟨a9, e9, r9⟩ := h242 r8 x.toInt64
  dsimp only
  rw [e9, Option.bind_some]
  obtain ⟨b1, g1, s1⟩ := h242 r9 x.toInt64
  rw [g1, Option.bind_some, gI_n hc (by omega), s1.1.1 135 (by omega), kf c hc, Option.bind_some]
  obtain ⟨b2, g2, s2⟩ := h242 s1 (fin f c).toInt64
  rw [g2, Option.bind_some]
  have hw : ∀ j, j < 10 → rI b2 137 j = wy f (f (97 + 5 * c + 1)) (aV f c) j := fun j hj => by
    have hj2 : rI b2 137 j = rI a8 137 j := by
      have z : ∀ {m m' : dM} {v : Int64}, D242 m v = some m' → rI m' = rI m := fun z => by
        cases z
        rfl
      rw [z g2, z g1, z e9]
    rw [hj2]
    exact WY_uniq (w8 j hj) (Classical.choose_spec (WY_ex f (f (97 + 5 * c + 1)) (aV f c) j))
  have kl := lpx (F := 3000) (s0 := (nI 0, b2)) (f := fun (s54 : Int32 × dM) => if (nI 10) ≤ s54.1 then some (Sum.inr (α := Int32 × dM) s54.2) else (gI s54.2 137 10 s54.1).bind fun (x56 : Int32) => (D242 s54.2 x56.toInt64).bind fun (r57 : dM) => some (.inl (s54.1 + (nI 1), r57))) (K := fun (v55 : dM) => some (Sum.inl (β := dM) (nI c + (nI 1), v55))) (Q := fun z => ∃ m', z = .inl (nI (c + 1), m') ∧ rH m0 m' (hC1 f c x h))
    (fun j t => t.1 = nI j ∧ rH m0 t.2 (hW f c (hx (hx (hx (hx (hx (hO f c (hx (hx (hx (hx h (f (97 + 5 * c + 0)).toInt64) (q1 (f (97 + 5 * c + 1)))) (ld f (nI c) (pN f)).toInt64) (q1 (if f (97 + 5 * c + 2) = -1 then nI 0 else nI 1)))) (f (97 + 5 * c + 3)).toInt64) (f (97 + 5 * c + 4)).toInt64) x.toInt64) x.toInt64) (fin f c).toInt64) j) ∧ rI t.2 137 = rI b2 137) (fun m' => rH m0 m' (hC1 f c x h)) 10 (by omega) ⟨rfl, s2, rfl⟩ ?_ ?_ (fun m' h => ⟨_, rfl, m', by rw [nI_add], h⟩)
  · obtain ⟨z, ez, m', rfl, hz⟩ := kl
    exact ⟨m', ez, hz⟩
  · rintro j ⟨t, m2⟩ hj ⟨ht, rt, wt⟩
    replace ht : t = nI j := ht
    replace rt : rH m0 m2 (hW f c _ j) := rt
    replace wt : rI m2 137 = rI b2 137 := wt
    subst ht
    obtain ⟨m3, e3', r3'⟩ := h242 rt (wy f (f (97 + 5 * c + 1)) (aV f c) j).toInt64
    refine .inl ⟨(nI j + nI 1, m3), ?_, nI_add j 1, r3', ?_⟩
    · dsimp only
      rw [if_neg (nI_ge hj (by omega)), gI_n hj (by omega), wt, hw j hj, Option.bind_some, e3', Option.bind_some]
    · cases e3'
      exact wt
  · rintro ⟨t, m2⟩ ⟨ht, rt, wt⟩
    replace ht : t = nI 10 := ht
    subst ht
    refine ⟨m2, ?_, rt⟩
    dsimp only
    rw [if_pos (nI_le (Nat.le_refl 10) (by omega))]
end DR
