/-! FORETELLING in the class and in the reference -/
section FT
variable {m : dM} {f g : Nat → Int32}
def chs (f g : Nat → Int32) (c : Nat) : Bool := decide (rd f g c ≠ g c)
theorem an_f {P : Nat → Bool} : ∀ n, anyN P n = false → ∀ i, i < n → P i = false
  | 0, _, i, h => by omega
  | n + 1, h, i, hi => by
    rw [an4, Bool.or_eq_false_iff] at h
    by_cases e : i = n
    · rw [e]; exact h.2
    · exact an_f n h.1 i (by omega)
theorem chs_st (h : anyN (chs f g) 4 = false) : rd f g = g := rd_st fun c hc => by
  have := an_f 4 h c hc
  unfold chs at this
  rw [decide_eq_false_iff_not] at this
  exact Classical.byContradiction this
theorem d8 (V : rv f) (hg : ∀ b, b < 4 → g b = nI 0 → g0 f b = nI 0) (hb : ∀ b, b < 4 → rI m 37 b = aT f b ∧ rI m 38 b = eC f b ∧ rI m 39 b = ld f (nI b) (pN f) ∧ rI m 40 b = g b) : ∃ m', D8 m = some (bI (anyN (chs f g) 4), m') ∧ chg (fun b => b = 40 ∨ b = 41) m m' ∧ ∀ b, b < 4 → rI m' 40 b = rd f g b := by
  unfold D8
  have k1 := lp_inv (F := 3000) (s0 := (nI 0, m)) (f := fun (s1 : Int32 × dM) => if (nI 4) ≤ s1.1 then some (Sum.inr (α := Int32 × dM) s1.2) else (gI s1.2 40 4 s1.1).bind fun (x3 : Int32) => Option.bind ((if x3 = (nI 0) then (gI s1.2 37 4 s1.1).bind fun (x5 : Int32) => (gI s1.2 38 4 s1.1).bind fun (x6 : Int32) => (gI s1.2 39 4 s1.1).bind fun (x7 : Int32) => (D9 s1.2 s1.1 x5 x6 x7).bind fun (x8 : Int32) => some x8 else (gI s1.2 40 4 s1.1).bind fun (x9 : Int32) => some x9) : Option (Int32)) fun (v4 : Int32) => (sI s1.2 41 4 s1.1 v4).bind fun (m10 : dM) => some (.inl (s1.1 + (nI 1), m10)))
    (fun k s => s.1 = nI k ∧ chg (fun b => b = 41) m s.2 ∧ ∀ j, j < k → rI s.2 41 j = rd f g j)
    (fun m' => chg (fun b => b = 41) m m' ∧ ∀ j, j < 4 → rI m' 41 j = rd f g j) 4 (by omega) ⟨rfl, chg.rf, fun j hj => by omega⟩ ?_ ?_
  · obtain ⟨m1, e1, c1, r1⟩ := k1
    rw [e1]
    show ∃ m', Option.bind (lp _ _ _) _ = _ ∧ _
    have k2 := lp_inv (F := 3000) (s0 := (nI 0, nI 0, m1)) (f := fun (s11 : Int32 × Int32 × dM) => if (nI 4) ≤ s11.2.1 then some (Sum.inr (α := Int32 × Int32 × dM) (s11.1, s11.2.2)) else Option.bind ((if s11.1 = (nI 0) then (gI s11.2.2 41 4 s11.2.1).bind fun (x14 : Int32) => (gI s11.2.2 40 4 s11.2.1).bind fun (x15 : Int32) => if x14 = x15 then some (nI 0) else some (nI 1) else some (nI 1)) : Option (Int32)) fun (v13 : Int32) => (gI s11.2.2 41 4 s11.2.1).bind fun (x16 : Int32) => (sI s11.2.2 40 4 s11.2.1 x16).bind fun (m17 : dM) => some (.inl (v13, s11.2.1 + (nI 1), m17)))
      (fun k s => s.1 = bI (anyN (chs f g) k) ∧ s.2.1 = nI k ∧ chg (fun b => b = 40 ∨ b = 41) m s.2.2 ∧ ∀ j, j < 4 → rI s.2.2 41 j = rd f g j ∧ rI s.2.2 40 j = if j < k then rd f g j else g j)
      (fun r => r.1 = bI (anyN (chs f g) 4) ∧ chg (fun b => b = 40 ∨ b = 41) m r.2 ∧ ∀ j, j < 4 → rI r.2 40 j = rd f g j) 4 (by omega) ⟨rfl, rfl, c1.mono (fun b e => .inr e), fun j hj => ⟨r1 j hj, ?_⟩⟩ ?_ ?_
    · obtain ⟨r, e2, h2, c2, r2⟩ := k2
      refine ⟨r.2, ?_, c2, r2⟩
      rw [e2]
      show Option.bind (gB r.1) _ = _
      rw [h2]
      cases anyN (chs f g) 4 <;> rfl
    · show rI m1 40 j = _
      rw [c1.1 40 (by decide), if_neg (by omega)]
      exact (hb j hj).2.2.2
    · rintro k ⟨x, t, m2⟩ hk ⟨hx, ht, c2, r2⟩
      replace hx : x = bI (anyN (chs f g) k) := hx
      replace ht : t = nI k := ht
      replace c2 : chg (fun b => b = 40 ∨ b = 41) m m2 := c2
      replace r2 : ∀ j, j < 4 → rI m2 41 j = rd f g j ∧ rI m2 40 j = if j < k then rd f g j else g j := r2
      subst hx ht
      refine .inl ⟨(bI (anyN (chs f g) (k + 1)), nI k + nI 1, wI m2 40 k (rd f g k)), ?_, rfl, nI_add k 1, chg.wI c2 (.inl rfl), fun j hj => ⟨?_, ?_⟩⟩
      · have e0 : ∀ A B : Option ((Int32 × Int32 × dM) ⊕ (Int32 × dM)), (if nI 4 ≤ nI k then A else B) = B := fun A B => if_neg (nI_ge hk (by omega))
        show (if nI 4 ≤ nI k then _ else Option.bind ((if bI (anyN (chs f g) k) = (nI 0) then (gI m2 41 4 (nI k)).bind fun (x14 : Int32) => (gI m2 40 4 (nI k)).bind fun (x15 : Int32) => if x14 = x15 then some (nI 0) else some (nI 1) else some (nI 1)) : Option (Int32)) fun (v13 : Int32) => (gI m2 41 4 (nI k)).bind fun (x16 : Int32) => (sI m2 40 4 (nI k) x16).bind fun (m17 : dM) => some (Sum.inl (v13, nI k + (nI 1), m17))) = _
        have r3 := r2 k hk
        rw [if_neg (Nat.lt_irrefl k)] at r3
        rw [e0, gI_n hk (by omega), gI_n hk (by omega), r3.1, r3.2]
        have y : (if bI (anyN (chs f g) k) = nI 0 then Option.bind (some (rd f g k)) (fun (x14 : Int32) => Option.bind (some (g k)) fun (x15 : Int32) => if x14 = x15 then some (nI 0) else some (nI 1)) else some (nI 1)) = some (bI (anyN (chs f g) (k + 1))) := by
          rw [an4]
          cases anyN (chs f g) k with
          | true => rfl
          | false =>
            rw [if_pos (show bI false = nI 0 from rfl)]
            show (if rd f g k = g k then some (nI 0) else some (nI 1)) = some (bI (chs f g k))
            unfold chs
            by_cases w : rd f g k = g k
            · rw [if_pos w, decide_eq_false (fun z => z w)]; rfl
            · rw [if_neg w, decide_eq_true w]; rfl
        rw [y]
        show Option.bind (sI m2 40 4 (nI k) (rd f g k)) _ = _
        rw [sI_n hk (by omega)]
        rfl
      · show rI (wI m2 40 k _) 41 j = _
        rw [rI_wn (by decide)]
        exact (r2 j hj).1
      · show rI (wI m2 40 k _) 40 j = _
        rw [rI_ws]
        by_cases e : j = k
        · rw [e, upd_s, if_pos (by omega)]
        · rw [upd_n e, (r2 j hj).2]
          by_cases e2 : j < k
          · rw [if_pos e2, if_pos (by omega)]
          · rw [if_neg e2, if_neg (by omega)]
    · rintro ⟨x, t, m2⟩ ⟨hx, ht, c2, r2⟩
      replace hx : x = bI (anyN (chs f g) 4) := hx
      replace ht : t = nI 4 := ht
      subst hx ht
      refine ⟨(bI (anyN (chs f g) 4), m2), rfl, rfl, c2, fun j hj => ?_⟩
      have := (r2 j hj).2
      rwa [if_pos hj] at this
  · rintro k ⟨x, m1⟩ hk ⟨hx, c1, r1⟩
    replace hx : x = nI k := hx
    replace c1 : chg (fun b => b = 41) m m1 := c1
    replace r1 : ∀ j, j < k → rI m1 41 j = rd f g j := r1
    subst hx
    have hb1 : ∀ b, b < 4 → rI m1 37 b = aT f b ∧ rI m1 38 b = eC f b ∧ rI m1 39 b = ld f (nI b) (pN f) ∧ rI m1 40 b = g b := fun b h => by
      rw [c1.1 37 (by decide), c1.1 38 (by decide), c1.1 39 (by decide), c1.1 40 (by decide)]
      exact hb b h
    obtain ⟨b1, b2, b3, b4⟩ := hb1 k hk
    refine .inl ⟨(nI k + nI 1, wI m1 41 k (rd f g k)), ?_, nI_add k 1, chg.wI c1 rfl, fun j hj => ?_⟩
    · have e0 : ∀ A B : Option ((Int32 × dM) ⊕ dM), (if nI 4 ≤ nI k then A else B) = B := fun A B => if_neg (nI_ge hk (by omega))
      show (if nI 4 ≤ nI k then _ else (gI m1 40 4 (nI k)).bind fun (x3 : Int32) => Option.bind ((if x3 = (nI 0) then (gI m1 37 4 (nI k)).bind fun (x5 : Int32) => (gI m1 38 4 (nI k)).bind fun (x6 : Int32) => (gI m1 39 4 (nI k)).bind fun (x7 : Int32) => (D9 m1 (nI k) x5 x6 x7).bind fun (x8 : Int32) => some x8 else (gI m1 40 4 (nI k)).bind fun (x9 : Int32) => some x9) : Option (Int32)) fun (v4 : Int32) => (sI m1 41 4 (nI k) v4).bind fun (m10 : dM) => some (Sum.inl (nI k + (nI 1), m10))) = _
      rw [e0, gI_n hk (by omega), gI_n hk (by omega), gI_n hk (by omega), gI_n hk (by omega), b1, b2, b3, b4]
      have y : (if g k = nI 0 then Option.bind (D9 m1 (nI k) (aT f k) (eC f k) (ld f (nI k) (pN f))) (fun (x8 : Int32) => some x8) else some (g k)) = some (rd f g k) := by
        unfold rd
        by_cases w : g k = nI 0
        · rw [if_pos w, if_pos ⟨hk, w⟩, d9 V hg hb1 hk w]
          rfl
        · rw [if_neg w, if_neg (fun z => w z.2)]
      show Option.bind (if g k = nI 0 then Option.bind (D9 m1 (nI k) (aT f k) (eC f k) (ld f (nI k) (pN f))) (fun (x8 : Int32) => some x8) else some (g k)) _ = _
      rw [y]
      show Option.bind (sI m1 41 4 (nI k) (rd f g k)) _ = _
      rw [sI_n hk (by omega)]
      rfl
    · show rI (wI m1 41 k _) 41 j = _
      rw [rI_ws]
      by_cases e : j = k
      · rw [e, upd_s]
      · rw [upd_n e]
        exact r1 j (by omega)
  · rintro ⟨x, m1⟩ ⟨hx, c1, r1⟩
    replace hx : x = nI 4 := hx
    subst hx
    exact ⟨m1, rfl, c1, r1⟩
theorem d7 (R : RC m 1 f) (V : rv f) : ∃ m', D7 m = some m' ∧ chg (fun b => 37 ≤ b ∧ b ≤ 41) m m' ∧ ∀ b, b < 4 → rI m' 40 b = fin f b ∧ rI m' 38 b = eC f b := by
  have hR : ∀ m', chg (fun b => 37 ≤ b ∧ b ≤ 41) m m' → RC m' 1 f := fun m' h => R.ch h (fun b h1 h2 => by omega)
  unfold D7
  have k1 := lp_inv (F := 3000) (s0 := (nI 0, m)) (f := fun (s1 : Int32 × dM) => if (nI 4) ≤ s1.1 then some (Sum.inr (α := Int32 × dM) s1.2) else (gI s1.2 7 4 s1.1).bind fun (x3 : Int32) => (D59 s1.2 x3).bind fun (x4 : Int32) => (gI s1.2 6 4 s1.1).bind fun (x5 : Int32) => (sI s1.2 37 4 s1.1 x5).bind fun (m6 : dM) => Option.bind ((if x4 = (nI 0) then some (-1) else (gI m6 4 24 x3).bind fun (x8 : Int32) => some x8) : Option (Int32)) fun (v7 : Int32) => (sI m6 38 4 s1.1 v7).bind fun (m9 : dM) => (D34 m9 s1.1).bind fun (x10 : Int32) => (sI m9 39 4 s1.1 x10).bind fun (m11 : dM) => Option.bind ((if x4 = (nI 0) then some (nI 1) else some (nI 0)) : Option (Int32)) fun (v12 : Int32) => (sI m11 40 4 s1.1 v12).bind fun (m13 : dM) => some (.inl (s1.1 + (nI 1), m13)))
    (fun k s => s.1 = nI k ∧ chg (fun b => 37 ≤ b ∧ b ≤ 41) m s.2 ∧ ∀ j, j < k → rI s.2 37 j = aT f j ∧ rI s.2 38 j = eC f j ∧ rI s.2 39 j = ld f (nI j) (pN f) ∧ rI s.2 40 j = g0 f j)
    (fun m' => chg (fun b => 37 ≤ b ∧ b ≤ 41) m m' ∧ ∀ j, j < 4 → rI m' 37 j = aT f j ∧ rI m' 38 j = eC f j ∧ rI m' 39 j = ld f (nI j) (pN f) ∧ rI m' 40 j = g0 f j) 4 (by omega) ⟨rfl, chg.rf, fun j hj => by omega⟩ ?_ ?_
  · obtain ⟨m1, e1, c1, r1⟩ := k1
    rw [e1]
    show ∃ m', lp _ _ _ = some m' ∧ _
    refine lp_inv (fun k s => s.1 = nI k ∧ chg (fun b => 37 ≤ b ∧ b ≤ 41) m s.2 ∧ ∀ j, j < 4 → rI s.2 37 j = aT f j ∧ rI s.2 38 j = eC f j ∧ rI s.2 39 j = ld f (nI j) (pN f) ∧ rI s.2 40 j = it f k j)
      (fun m' => chg (fun b => 37 ≤ b ∧ b ≤ 41) m m' ∧ ∀ b, b < 4 → rI m' 40 b = fin f b ∧ rI m' 38 b = eC f b) 5 (by omega) ⟨rfl, c1, r1⟩ ?_ ?_
    · rintro k ⟨x, m2⟩ hk ⟨hx, c2, r2⟩
      replace hx : x = nI k := hx
      replace c2 : chg (fun b => 37 ≤ b ∧ b ≤ 41) m m2 := c2
      replace r2 : ∀ j, j < 4 → rI m2 37 j = aT f j ∧ rI m2 38 j = eC f j ∧ rI m2 39 j = ld f (nI j) (pN f) ∧ rI m2 40 j = it f k j := r2
      subst hx
      obtain ⟨m3, e3, c3, r3⟩ := d8 (g := it f k) V (fun b _ h => it_0 k h) r2
      have e0 : ∀ A B : Option ((Int32 × dM) ⊕ dM), (if nI 4 < nI k then A else B) = B := fun A B => if_neg (nI_nlt (by omega) (by omega))
      show (∃ s', (if nI 4 < nI k then _ else Option.bind (D8 m2) _) = _ ∧ _) ∨ (∃ b, (if nI 4 < nI k then _ else Option.bind (D8 m2) _) = _ ∧ _)
      rw [e0, e3]
      show (∃ s', (if bI (anyN (chs f (it f k)) 4) = nI 0 then _ else _) = _ ∧ _) ∨ (∃ b, (if bI (anyN (chs f (it f k)) 4) = nI 0 then _ else _) = _ ∧ _)
      have c4 : chg (fun b => 37 ≤ b ∧ b ≤ 41) m m3 := c2.tr (c3.mono (fun b e => by omega))
      have r4 : ∀ j, j < 4 → rI m3 37 j = aT f j ∧ rI m3 38 j = eC f j ∧ rI m3 39 j = ld f (nI j) (pN f) ∧ rI m3 40 j = it f (k + 1) j := fun j hj => by
        obtain ⟨z1, z2, z3, -⟩ := r2 j hj
        rw [c3.1 37 (by decide), c3.1 38 (by decide), c3.1 39 (by decide)]
        exact ⟨z1, z2, z3, r3 j hj⟩
      cases q : anyN (chs f (it f k)) 4 with
      | false =>
        refine .inr ⟨m3, rfl, c4, fun b hb => ⟨?_, (r4 b hb).2.1⟩⟩
        rw [(r4 b hb).2.2.2, ← it_fin (show k ≤ 4 by omega) (chs_st q)]
        show rd f (it f k) b = _
        rw [chs_st q]
      | true => exact .inl ⟨(nI k + nI 1, m3), rfl, nI_add k 1, c4, r4⟩
    · rintro ⟨x, m2⟩ ⟨hx, c2, r2⟩
      replace hx : x = nI 5 := hx
      subst hx
      refine ⟨m2, rfl, c2, fun b hb => ⟨?_, (r2 b hb).2.1⟩⟩
      rw [(r2 b hb).2.2.2, ← fin_st f]
      rfl
  · rintro k ⟨x, m1⟩ hk ⟨hx, c1, r1⟩
    replace hx : x = nI k := hx
    replace c1 : chg (fun b => 37 ≤ b ∧ b ≤ 41) m m1 := c1
    replace r1 : ∀ j, j < k → rI m1 37 j = aT f j ∧ rI m1 38 j = eC f j ∧ rI m1 39 j = ld f (nI j) (pN f) ∧ rI m1 40 j = g0 f j := r1
    subst hx
    have R1 := hR m1 c1
    have h24 := V.s24
    have hso : ∃ w, D59 m1 (f (97 + 5 * k + 2)) = some w ∧ ((w = nI 0 ∧ g0 f k = nI 1) ∨ (w = nI 1 ∧ g0 f k = nI 0)) := by
      unfold g0
      rcases (V.2.1.1 k hk).2.2 with q | ⟨s, h1, h2, -⟩
      · rw [q, d59b R1 V bad_m1]
        exact ⟨_, rfl, .inl ⟨rfl, if_pos rfl⟩⟩
      · rw [h2, d59 R1 V h1]
        exact ⟨_, rfl, .inr ⟨rfl, if_neg (by rw [nI_m1 (by omega)]; exact id)⟩⟩
    obtain ⟨w, ew, hw⟩ := hso
    have R2 : RC (wI m1 37 k (aT f k)) 1 f := hR _ (chg.wI c1 (by decide))
    have R3 : RC (wI (wI m1 37 k (aT f k)) 38 k (eC f k)) 1 f := hR _ (chg.wI (chg.wI c1 (by decide)) (by decide))
    refine .inl ⟨(nI k + nI 1, wI (wI (wI (wI m1 37 k (aT f k)) 38 k (eC f k)) 39 k (ld f (nI k) (pN f))) 40 k (g0 f k)), ?_, nI_add k 1, chg.wI (chg.wI (chg.wI (chg.wI c1 (by decide)) (by decide)) (by decide)) (by decide), fun j hj => ?_⟩
    · have e0 : ∀ A B : Option ((Int32 × dM) ⊕ dM), (if nI 4 ≤ nI k then A else B) = B := fun A B => if_neg (nI_ge hk (by omega))
      show (if nI 4 ≤ nI k then _ else Option.bind (gI m1 7 4 (nI k)) _) = _
      rw [e0, gI_n hk (by omega), R1.od hk]
      show Option.bind (D59 m1 (f (97 + 5 * k + 2))) _ = _
      rw [ew]
      show Option.bind (gI m1 6 4 (nI k)) _ = _
      rw [gI_n hk (by omega), R1.at hk]
      show Option.bind (sI m1 37 4 (nI k) (aT f k)) _ = _
      rw [sI_n hk (by omega)]
      have y : (if w = nI 0 then some (-1) else Option.bind (gI (wI m1 37 k (aT f k)) 4 24 (f (97 + 5 * k + 2))) fun (x8 : Int32) => some x8) = some (eC f k) := by
        unfold eC
        rcases hw with ⟨rfl, h2⟩ | ⟨rfl, h2⟩
        · rw [if_pos rfl, h2, if_neg (by decide)]
        · obtain ⟨s, q1, q2, q3, q4⟩ := g0_or V hk h2
          rw [if_neg (by decide), h2, if_pos rfl, q2, gI_n (by omega) (by omega), R2.to (by omega), q4]
          rfl
      show Option.bind (if w = nI 0 then some (-1) else Option.bind (gI (wI m1 37 k (aT f k)) 4 24 (f (97 + 5 * k + 2))) fun (x8 : Int32) => some x8) _ = _
      rw [y]
      show Option.bind (sI (wI m1 37 k (aT f k)) 38 4 (nI k) (eC f k)) _ = _
      rw [sI_n hk (by omega)]
      show Option.bind (D34 (wI (wI m1 37 k (aT f k)) 38 k (eC f k)) (nI k)) _ = _
      rw [d34 R3 V hk]
      show Option.bind (sI (wI (wI m1 37 k (aT f k)) 38 k (eC f k)) 39 4 (nI k) (ld f (nI k) (pN f))) _ = _
      rw [sI_n hk (by omega)]
      have y2 : (if w = nI 0 then some (nI 1) else some (nI 0)) = some (g0 f k) := by
        rcases hw with ⟨rfl, h2⟩ | ⟨rfl, h2⟩
        · rw [h2]; rfl
        · rw [h2]; rfl
      show Option.bind (if w = nI 0 then some (nI 1) else some (nI 0)) _ = _
      rw [y2]
      show Option.bind (sI (wI (wI (wI m1 37 k (aT f k)) 38 k (eC f k)) 39 k (ld f (nI k) (pN f))) 40 4 (nI k) (g0 f k)) _ = _
      rw [sI_n hk (by omega)]
      rfl
    · show rI (wI (wI (wI (wI m1 37 k (aT f k)) 38 k (eC f k)) 39 k (ld f (nI k) (pN f))) 40 k (g0 f k)) 37 j = _ ∧ rI (wI (wI (wI (wI m1 37 k (aT f k)) 38 k (eC f k)) 39 k (ld f (nI k) (pN f))) 40 k (g0 f k)) 38 j = _ ∧ rI (wI (wI (wI (wI m1 37 k (aT f k)) 38 k (eC f k)) 39 k (ld f (nI k) (pN f))) 40 k (g0 f k)) 39 j = _ ∧ rI (wI (wI (wI (wI m1 37 k (aT f k)) 38 k (eC f k)) 39 k (ld f (nI k) (pN f))) 40 k (g0 f k)) 40 j = _
      rw [rI_wn (show (37 : Nat) ≠ 40 by decide), rI_wn (show (37 : Nat) ≠ 39 by decide), rI_wn (show (37 : Nat) ≠ 38 by decide), rI_ws, rI_wn (show (38 : Nat) ≠ 40 by decide), rI_wn (show (38 : Nat) ≠ 39 by decide), rI_ws, rI_wn (show (38 : Nat) ≠ 37 by decide), rI_wn (show (39 : Nat) ≠ 40 by decide), rI_ws, rI_wn (show (39 : Nat) ≠ 38 by decide), rI_wn (show (39 : Nat) ≠ 37 by decide), rI_ws, rI_wn (show (40 : Nat) ≠ 39 by decide), rI_wn (show (40 : Nat) ≠ 38 by decide), rI_wn (show (40 : Nat) ≠ 37 by decide)]
      by_cases e : j = k
      · subst e
        simp only [upd_s, and_self]
      · simp only [upd_n e]
        exact r1 j (by omega)
  · rintro ⟨x, m1⟩ ⟨hx, c1, r1⟩
    replace hx : x = nI 4 := hx
    subst hx
    exact ⟨m1, rfl, c1, r1⟩
end FT
