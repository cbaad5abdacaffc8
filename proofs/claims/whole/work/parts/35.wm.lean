/-! WAYS in the reference: the next street, the parcel that suits best -/
/-- nothing of the reference changed but what it throws away -/
def mdq (m m' : dM) : Prop := chg (fun b => b = 130 ∨ b = 135 ∨ b = 136 ∨ b = 137) m m' ∧ rI m' 130 2 = rI m 130 2 ∧ rI m' 130 4 = rI m 130 4 ∧ rI m' 130 6 = rI m 130 6
theorem mdq.rf {m : dM} : mdq m m := ⟨chg.rf, rfl, rfl, rfl⟩
theorem mdq.tr {m m' m'' : dM} (h : mdq m m') (k : mdq m' m'') : mdq m m'' := ⟨h.1.tr k.1, k.2.1.trans h.2.1, k.2.2.1.trans h.2.2.1, k.2.2.2.trans h.2.2.2⟩
theorem mdq.w7 {m m' : dM} {v : Int32} (h : mdq m m') : mdq m (wI m' 130 7 v) := by
  refine ⟨chg.wI h.1 (.inl rfl), ?_, ?_, ?_⟩
  · rw [rI_ws, upd_n (by decide)]; exact h.2.1
  · rw [rI_ws, upd_n (by decide)]; exact h.2.2.1
  · rw [rI_ws, upd_n (by decide)]; exact h.2.2.2
theorem mdq.of {m m' : dM} (h : chg (fun b => b = 137) m m') : mdq m m' := ⟨h.mono (fun b e => .inr (.inr (.inr e))), by rw [h.1 130 (by decide)], by rw [h.1 130 (by decide)], by rw [h.1 130 (by decide)]⟩
theorem mdq.f {m m' : dM} (h : mdq m m') : rI m' 131 = rI m 131 := h.1.1 131 (by decide)
theorem mdq.t {m m' : dM} {v : Int32} (h : chg (fun b => b = 137) (wI m 130 7 v) m') : rI m' 130 7 = v := by
  rw [h.1 130 (by decide), rI_ws, upd_s]
theorem d143 {m : dM} {v : Int32} : D143 m v = some (nI 0, wI m 130 7 v) := rfl
theorem r7 {m : dM} {v : Int32} : rI (wI m 130 7 v) 130 7 = v := by rw [rI_ws, upd_s]
theorem f7 {m : dM} {v : Int32} : rI (wI m 130 7 v) 131 = rI m 131 := rI_wn (by decide)
def ix (k : Nat) : Int32 := if k = 0 then -1 else nI (k - 1)
theorem ix_k (k : Nat) : kD (ix (k + 1)) = some (ix k) := by
  cases k with
  | zero => exact kD_0
  | succ k => exact kD_n (by omega)
section WM
variable {m : dM} {f : Nat → Int32}
theorem canM (hf : rI m 131 = f) {c k : Nat} (hc : c < 4) (hk : k < 24) : ∃ w, (Option.bind (D157 m (nI k)) fun (x9 : Int32) => ((if x9 = (nI 0) then some (nI 0) else (D156 m (nI k)).bind fun (x11 : Int32) => if x11 = (nI 0) then some (nI 1) else (D150 m (nI c) (nI 1)).bind fun (x12 : Int32) => if x12 = (nI 1) then some (nI 0) else some (nI 1)) : Option (Int32))) = some w ∧ (w = nI 0 ↔ ¬ cn f k (f (97 + 5 * c + 1))) := by
  rw [d157 hf hk, d156 hf hk, d150 hf hc (by omega)]
  unfold cn
  by_cases z1 : f (1 + 4 * k + 3) = nI 1
  · by_cases z2 : f (1 + 4 * k + 2) = nI 1
    · by_cases z3 : f (97 + 5 * c + 1) = nI 1
      · exact ⟨nI 0, by simp [z1, z2, z3, n10], by simp [z1, z2, z3]⟩
      · exact ⟨nI 1, by simp [z1, z2, z3, n10], by simp [z1, z2, z3, n10]⟩
    · exact ⟨nI 1, by simp [z1, z2, n10], by simp [z1, z2, n10]⟩
  · exact ⟨nI 0, by simp [z1], by simp [z1]⟩
theorem d233b {p q : Int32} (h : bad p 4 ∨ (sm p 4 ∧ bad q 10)) : D233 m p q = some (nI 0, wI (wI m 130 7 (nI 0)) 130 7 (nI 1)) := by
  unfold D233
  rcases h with h | ⟨⟨j, hj, rfl⟩, h⟩
  · rw [d146b h]; rfl
  · rw [d146 hj, d145b h]; rfl
theorem d233 (hf : rI m 131 = f) (V : rv f) {c b : Nat} (hc : c < 4) (hb : b < 10) : ∃ x m', D233 m (nI c) (nI b) = some (x, m') ∧ mdq m m' ∧ ((nI 1 ≤ wy f (f (97 + 5 * c + 1)) (aV f c) b ∧ rI m' 130 7 = nI 0 ∧ FS f c b (wy f (f (97 + 5 * c + 1)) (aV f c) b) 0 x) ∨ (¬ nI 1 ≤ wy f (f (97 + 5 * c + 1)) (aV f c) b ∧ rI m' 130 7 = nI 2)) := by
  have h24 := V.s24
  have hf1 : rI (wI m 130 7 (nI 0)) 131 = f := f7.trans hf
  obtain ⟨m2, e2, c2⟩ := d231w hf1 V hc (aV_lt V.2.1 hc) hb
  have hf2 : rI m2 131 = f := (c2.1 131 (by decide)).trans hf1
  unfold D233
  rw [d146 hc, d145 hb]
  show ∃ x m', Option.bind (D150 (wI m 130 7 (nI 0)) (nI c) (nI 0)) _ = _ ∧ _
  rw [d150 hf1 hc (by omega), aV_e V.2.1 hc]
  show ∃ x m', Option.bind (D231 (wI m 130 7 (nI 0)) (nI c) (nI (aV f c)) (nI b)) _ = _ ∧ _
  rw [e2]
  show ∃ x m', (if nI 1 ≤ wy f (f (97 + 5 * c + 1)) (aV f c) b then Option.bind (lp _ _ _) _ else _) = _ ∧ _
  by_cases q : nI 1 ≤ wy f (f (97 + 5 * c + 1)) (aV f c) b
  · rw [if_pos q]
    have k1 := lp_inv (F := 3000) (s0 := ((-1 : Int32), (rI m2 131 0) - (nI 1), m2)) (f := fun (s8 : Int32 × Int32 × dM) => if s8.2.1 < (nI 0) then some (Sum.inr (α := Int32 × Int32 × dM) (s8.1, s8.2.2)) else (D154 s8.2.2 s8.2.1).bind fun (x10 : Int32) => Option.bind ((if x10 = nI (aV f c) then (D157 s8.2.2 s8.2.1).bind fun (x12 : Int32) => if x12 = (nI 0) then some (nI 0) else (D156 s8.2.2 s8.2.1).bind fun (x13 : Int32) => if x13 = (nI 0) then some (nI 1) else (D150 s8.2.2 (nI c) (nI 1)).bind fun (x14 : Int32) => if x14 = (nI 1) then some (nI 0) else some (nI 1) else some (nI 0)) : Option (Int32)) fun (v11 : Int32) => Option.bind ((if v11 = (nI 0) then some (s8.1, s8.2.2) else (D155 s8.2.2 s8.2.1).bind fun (x16 : Int32) => (D231 s8.2.2 (nI c) x16 (nI b)).bind fun (r17 : Int32 × dM) => if r17.1 = ((wy f (f (97 + 5 * c + 1)) (aV f c) b) - (nI 1)) then some (s8.2.1, r17.2) else some (s8.1, r17.2)) : Option (Int32 × dM)) fun (v15 : Int32 × dM) => (kD s8.2.1).bind fun (x18 : Int32) => some (.inl (v15.1, x18, v15.2)))
      (fun n s => s.2.1 = ix (sN f - n) ∧ chg (fun b => b = 137) (wI m 130 7 (nI 0)) s.2.2 ∧ FS f c b (wy f (f (97 + 5 * c + 1)) (aV f c) b) (sN f - n) s.1)
      (fun r => chg (fun b => b = 137) (wI m 130 7 (nI 0)) r.2 ∧ FS f c b (wy f (f (97 + 5 * c + 1)) (aV f c) b) 0 r.1) (sN f) (by omega) ⟨?_, c2, .inr ⟨fun s h1 h2 => by omega, rfl⟩⟩ ?_ ?_
    · obtain ⟨r, e3, c3, h3⟩ := k1
      refine ⟨r.1, r.2, ?_, mdq.w7 mdq.rf |>.tr (mdq.of c3), .inl ⟨q, mdq.t c3, h3⟩⟩
      rw [e3]
      rfl
    · show rI m2 131 0 - nI 1 = ix (sN f - 0)
      rw [hf2, V.s0]
      unfold ix
      split
      · rename_i h
        rw [show sN f = 0 by omega]
        decide
      · rw [nI_sub (by omega)]
        rfl
    · rintro n ⟨x, t, m3⟩ hn ⟨ht, c3, h3⟩
      replace ht : t = ix (sN f - n) := ht
      replace c3 : chg (fun b => b = 137) (wI m 130 7 (nI 0)) m3 := c3
      replace h3 : FS f c b (wy f (f (97 + 5 * c + 1)) (aV f c) b) (sN f - n) x := h3
      obtain ⟨k, hk⟩ : ∃ k, sN f - n = k + 1 := ⟨sN f - n - 1, by omega⟩
      have hk2 : sN f - (n + 1) = k := by omega
      rw [hk] at ht h3
      subst ht
      have hkn : k < sN f := by omega
      have hf3 : rI m3 131 = f := (c3.1 131 (by decide)).trans hf1
      obtain ⟨⟨i, hi, ei⟩, ⟨j, hj, ej⟩, -⟩ := V.1.2.2.1 k hkn
      have ejn : (f (1 + 4 * k + 1)).toNatClampNeg = j := by rw [ej, nI_clamp (by omega)]
      obtain ⟨m4, e4, c4⟩ := d231w hf3 V hc hj hb
      obtain ⟨w, ew, hw⟩ := canM hf3 hc (show k < 24 by omega)
      have ixk : ix (k + 1) = nI k := rfl
      refine .inl ?_
      have hno : ¬ okS f c b (wy f (f (97 + 5 * c + 1)) (aV f c) b) k → ∀ m5, chg (fun b => b = 137) (wI m 130 7 (nI 0)) m5 → ∃ s', Option.bind (some (x, m5)) (fun (v15 : Int32 × dM) => (kD (ix (k + 1))).bind fun (x18 : Int32) => some (Sum.inl (β := Int32 × dM) (v15.1, x18, v15.2))) = some (.inl s') ∧ s'.2.1 = ix (sN f - (n + 1)) ∧ chg (fun b => b = 137) (wI m 130 7 (nI 0)) s'.2.2 ∧ FS f c b (wy f (f (97 + 5 * c + 1)) (aV f c) b) (sN f - (n + 1)) s'.1 := by
        intro z m5 c5
        rw [ix_k, hk2]
        refine ⟨(x, ix k, m5), rfl, rfl, c5, ?_⟩
        rcases h3 with ⟨s, q1, q2, q3, q4, q5⟩ | ⟨q1, q2⟩
        · refine .inl ⟨s, by omega, q2, q3, fun i h1 h2 => ?_, q5⟩
          by_cases e : i = k
          · rw [e]; exact z
          · exact q4 i (by omega) h2
        · refine .inr ⟨fun s h1 h2 => ?_, q2⟩
          by_cases e : s = k
          · rw [e]; exact z
          · exact q1 s (by omega) h2
      have e0 : ∀ A B : Option ((Int32 × Int32 × dM) ⊕ (Int32 × dM)), (if ix (k + 1) < nI 0 then A else B) = B := fun A B => if_neg (by rw [ixk]; exact nn0 (by omega))
      show ∃ s', (if ix (k + 1) < nI 0 then _ else Option.bind (D154 m3 (ix (k + 1))) _) = _ ∧ _
      rw [e0, ixk, d154 hf3 (by omega)]
      show ∃ s', Option.bind (if f (1 + 4 * k) = nI (aV f c) then ((D157 m3 (nI k)).bind fun (x12 : Int32) => if x12 = (nI 0) then some (nI 0) else (D156 m3 (nI k)).bind fun (x13 : Int32) => if x13 = (nI 0) then some (nI 1) else (D150 m3 (nI c) (nI 1)).bind fun (x14 : Int32) => if x14 = (nI 1) then some (nI 0) else some (nI 1)) else _) _ = _ ∧ _
      by_cases q1 : f (1 + 4 * k) = nI (aV f c)
      · rw [if_pos q1, ew]
        show ∃ s', Option.bind (if w = nI 0 then _ else Option.bind (D155 m3 (nI k)) _) _ = _ ∧ _
        by_cases q2 : cn f k (f (97 + 5 * c + 1))
        · rw [if_neg (fun z => hw.mp z q2), d155 hf3 (by omega), ej]
          show ∃ s', Option.bind (Option.bind (D231 m3 (nI c) (nI j) (nI b)) _) _ = _ ∧ _
          rw [e4]
          show ∃ s', Option.bind (if wy f (f (97 + 5 * c + 1)) j b = wy f (f (97 + 5 * c + 1)) (aV f c) b - nI 1 then _ else _) _ = _ ∧ _
          by_cases q3 : wy f (f (97 + 5 * c + 1)) j b = wy f (f (97 + 5 * c + 1)) (aV f c) b - nI 1
          · rw [if_pos q3]
            show ∃ s', (Option.bind (some (nI k, m4)) fun (v15 : Int32 × dM) => (kD (nI k)).bind fun (x18 : Int32) => some (Sum.inl (β := Int32 × dM) (v15.1, x18, v15.2))) = _ ∧ _
            rw [show kD (nI k) = some (ix k) from ix_k k, hk2]
            exact ⟨(nI k, ix k, m4), rfl, rfl, c3.tr c4, .inl ⟨k, Nat.le_refl _, hkn, ⟨by rw [q1, aV_e V.2.1 hc], q2, by rw [ejn]; exact q3⟩, fun i h1 h2 => by omega, rfl⟩⟩
          · rw [if_neg q3]
            exact hno (fun z => q3 (by rw [← ejn]; exact z.2.2)) m4 (c3.tr c4)
        · rw [if_pos (hw.mpr q2)]
          exact hno (fun z => q2 z.2.1) m3 c3
      · rw [if_neg q1]
        exact hno (fun z => q1 (by rw [← aV_e V.2.1 hc]; exact z.1)) m3 c3
    · rintro ⟨x, t, m3⟩ ⟨ht, c3, h3⟩
      replace ht : t = ix (sN f - sN f) := ht
      rw [Nat.sub_self] at ht h3
      subst ht
      exact ⟨(x, m3), rfl, c3, h3⟩
  · rw [if_neg q]
    exact ⟨nI 0, wI m2 130 7 (nI 2), rfl, (mdq.w7 mdq.rf |>.tr (mdq.of c2)).w7, .inr ⟨q, r7⟩⟩
theorem d234b {p : Int32} (h : bad p 4) : D234 m p = some (nI 0, wI (wI m 130 7 (nI 0)) 130 7 (nI 1)) := by
  unfold D234
  rw [d146b h]
  rfl
theorem d234 (hf : rI m 131 = f) (V : rv f) {c : Nat} (hc : c < 4) : ∃ x m', D234 m (nI c) = some (x, m') ∧ mdq m m' ∧ (((bp f c (pN f)).1 ≠ -1 ∧ rI m' 130 7 = nI 0 ∧ x = (bp f c (pN f)).1) ∨ ((bp f c (pN f)).1 = -1 ∧ rI m' 130 7 = nI 2)) := by
  have h8 := V.p8
  have hf1 : rI (wI m 130 7 (nI 0)) 131 = f := f7.trans hf
  unfold D234
  rw [d146 hc]
  have k1 := lp_inv (F := 3000) (s0 := ((-1 : Int32), nI 0, nI 0, wI m 130 7 (nI 0))) (f := fun (s4 : Int32 × Int32 × Int32 × dM) => if (rI s4.2.2.2 131 117) ≤ s4.2.2.1 then some (Sum.inr (α := Int32 × Int32 × Int32 × dM) (s4.1, s4.2.2.2)) else (D150 s4.2.2.2 (nI c) (nI 0)).bind fun (x6 : Int32) => (D152 s4.2.2.2 s4.2.2.1 (nI 0)).bind fun (x7 : Int32) => (D231 s4.2.2.2 (nI c) x6 x7).bind fun (r8 : Int32 × dM) => (D152 r8.2 s4.2.2.1 (nI 0)).bind fun (x9 : Int32) => (D152 r8.2 s4.2.2.1 (nI 1)).bind fun (x10 : Int32) => (D231 r8.2 (nI c) x9 x10).bind fun (r11 : Int32 × dM) => (D152 r11.2 s4.2.2.1 (nI 4)).bind fun (x12 : Int32) => Option.bind ((if x12 = (nI 0) then if r8.1 = (-1) then some (nI 0) else if r11.1 = (-1) then some (nI 0) else (D152 r11.2 s4.2.2.1 (nI 2)).bind fun (x14 : Int32) => (D160 r11.2 (nI c)).bind fun (x15 : Int32) => if x15 < x14 then some (nI 0) else some (nI 1) else some (nI 0)) : Option (Int32)) fun (v13 : Int32) => Option.bind ((if v13 = (nI 0) then some (s4.1, s4.2.1) else if s4.1 = (-1) then some (s4.2.2.1, r8.1 + r11.1) else if (r8.1 + r11.1) < s4.2.1 then some (s4.2.2.1, r8.1 + r11.1) else if (r8.1 + r11.1) = s4.2.1 then (D152 r11.2 s4.2.2.1 (nI 3)).bind fun (x17 : Int32) => (D152 r11.2 s4.1 (nI 3)).bind fun (x18 : Int32) => if x17 ≤ x18 then some (s4.1, s4.2.1) else some (s4.2.2.1, r8.1 + r11.1) else some (s4.1, s4.2.1)) : Option (Int32 × Int32)) fun (v16 : Int32 × Int32) => some (.inl (v16.1, v16.2, s4.2.2.1 + (nI 1), r11.2)))
    (fun n s => s.1 = (bp f c n).1 ∧ s.2.1 = (bp f c n).2.1 ∧ s.2.2.1 = nI n ∧ chg (fun b => b = 137) (wI m 130 7 (nI 0)) s.2.2.2)
    (fun r => r.1 = (bp f c (pN f)).1 ∧ chg (fun b => b = 137) (wI m 130 7 (nI 0)) r.2) (pN f) (by omega) ⟨rfl, rfl, rfl, chg.rf⟩ ?_ ?_
  · obtain ⟨r, e3, h3, c3⟩ := k1
    show ∃ x m', Option.bind (lp _ _ _) _ = _ ∧ _
    rw [e3]
    show ∃ x m', Option.bind (if r.1 = -1 then _ else _) _ = _ ∧ _
    rw [h3]
    by_cases q : (bp f c (pN f)).1 = -1
    · rw [if_pos q]
      exact ⟨nI 0, wI r.2 130 7 (nI 2), rfl, (mdq.w7 mdq.rf |>.tr (mdq.of c3)).w7, .inr ⟨q, r7⟩⟩
    · rw [if_neg q]
      exact ⟨(bp f c (pN f)).1, r.2, rfl, mdq.w7 mdq.rf |>.tr (mdq.of c3), .inl ⟨q, mdq.t c3, rfl⟩⟩
  · rintro n ⟨x, y, t, m3⟩ hn ⟨hx, hy, ht, c3⟩
    replace hx : x = (bp f c n).1 := hx
    replace hy : y = (bp f c n).2.1 := hy
    replace ht : t = nI n := ht
    replace c3 : chg (fun b => b = 137) (wI m 130 7 (nI 0)) m3 := c3
    subst hx hy ht
    refine .inl ?_
    have hf3 : rI m3 131 = f := (c3.1 131 (by decide)).trans hf1
    obtain ⟨⟨i, hi, ei⟩, ⟨j, hj, ej⟩, -⟩ := V.2.2.1.2.2 n hn
    obtain ⟨m4, e4, c4⟩ := d231w hf3 V hc (aV_lt V.2.1 hc) hi
    have hf4 : rI m4 131 = f := (c4.1 131 (by decide)).trans hf3
    obtain ⟨m5, e5, c5⟩ := d231w hf4 V hc hi hj
    have hf5 : rI m5 131 = f := (c5.1 131 (by decide)).trans hf4
    have ein : (f (118 + 6 * n + 0)).toNatClampNeg = i := by rw [ei, nI_clamp (by omega)]
    have ejn : (f (118 + 6 * n + 1)).toNatClampNeg = j := by rw [ej, nI_clamp (by omega)]
    have e0 : ∀ A B : Option ((Int32 × Int32 × Int32 × dM) ⊕ (Int32 × dM)), (if rI m3 131 117 ≤ nI n then A else B) = B := fun A B => by rw [hf3, V.p0, if_neg (nI_ge hn (by omega))]
    have eb : bp f c (n + 1) = if ww f c n ≠ -1 ∧ ((bp f c n).1 = -1 ∨ ww f c n < (bp f c n).2.1 ∨ (ww f c n = (bp f c n).2.1 ∧ (bp f c n).2.2 < f (118 + 6 * n + 3))) then (nI n, ww f c n, f (118 + 6 * n + 3)) else bp f c n := rfl
    show ∃ s', (if rI m3 131 117 ≤ nI n then _ else Option.bind (D150 m3 (nI c) (nI 0)) _) = _ ∧ _
    rw [e0, d150 hf3 hc (by omega), aV_e V.2.1 hc]
    show ∃ s', Option.bind (D152 m3 (nI n) (nI 0)) _ = _ ∧ _
    rw [d152 hf3 (by omega) (by omega), ei]
    show ∃ s', Option.bind (D231 m3 (nI c) (nI (aV f c)) (nI i)) _ = _ ∧ _
    rw [e4]
    show ∃ s', Option.bind (D152 m4 (nI n) (nI 0)) _ = _ ∧ _
    rw [d152 hf4 (by omega) (by omega), ei]
    show ∃ s', Option.bind (D152 m4 (nI n) (nI 1)) _ = _ ∧ _
    rw [d152 hf4 (by omega) (by omega), ej]
    show ∃ s', Option.bind (D231 m4 (nI c) (nI i) (nI j)) _ = _ ∧ _
    rw [e5]
    show ∃ s', Option.bind (D152 m5 (nI n) (nI 4)) _ = _ ∧ _
    rw [d152 hf5 (by omega) (by omega)]
    have hww : ∃ v, (if f (118 + 6 * n + 4) = (nI 0) then if wy f (f (97 + 5 * c + 1)) (aV f c) i = (-1) then some (nI 0) else if wy f (f (97 + 5 * c + 1)) i j = (-1) then some (nI 0) else (D152 m5 (nI n) (nI 2)).bind fun (x14 : Int32) => (D160 m5 (nI c)).bind fun (x15 : Int32) => if x15 < x14 then some (nI 0) else some (nI 1) else some (nI 0)) = some v ∧ ((v = nI 0 ∧ ww f c n = -1) ∨ (v = nI 1 ∧ ww f c n = wy f (f (97 + 5 * c + 1)) (aV f c) i + wy f (f (97 + 5 * c + 1)) i j ∧ ww f c n ≠ -1)) := by
      unfold ww
      rw [ein, ejn, d152 hf5 (by omega) (by omega), d160 hf5 hc]
      by_cases q1 : f (118 + 6 * n + 4) = nI 0
      · rw [if_pos q1]
        by_cases q2 : wy f (f (97 + 5 * c + 1)) (aV f c) i = -1
        · rw [if_pos q2]
          exact ⟨_, rfl, .inl ⟨rfl, if_neg (fun z => z.2.2.1 q2)⟩⟩
        · rw [if_neg q2]
          by_cases q3 : wy f (f (97 + 5 * c + 1)) i j = -1
          · rw [if_pos q3]
            exact ⟨_, rfl, .inl ⟨rfl, if_neg (fun z => z.2.2.2 q3)⟩⟩
          · rw [if_neg q3]
            show ∃ v, (if mx f c < f (118 + 6 * n + 2) then _ else _) = some v ∧ _
            by_cases q4 : mx f c < f (118 + 6 * n + 2)
            · rw [if_pos q4]
              exact ⟨_, rfl, .inl ⟨rfl, if_neg (fun z => absurd z.2.1 (Int32.not_le.mpr q4))⟩⟩
            · rw [if_neg q4]
              refine ⟨_, rfl, .inr ⟨rfl, ?_⟩⟩
              rw [if_pos ⟨q1, Int32.not_lt.mp q4, q2, q3⟩]
              refine ⟨rfl, ?_⟩
              rcases wy_or f (f (97 + 5 * c + 1)) (aV f c) i with z | ⟨u, hu, eu⟩
              · exact absurd z q2
              · rcases wy_or f (f (97 + 5 * c + 1)) i j with z | ⟨u2, hu2, eu2⟩
                · exact absurd z q3
                · rw [eu, eu2, nI_add, ne_eq, nI_m1 (by omega)]
                  exact id
      · rw [if_neg q1]
        exact ⟨_, rfl, .inl ⟨rfl, if_neg (fun z => q1 z.1)⟩⟩
    obtain ⟨v, ev, hv⟩ := hww
    have hmem : chg (fun b => b = 137) (wI m 130 7 (nI 0)) m5 := (c3.tr c4).tr c5
    show ∃ s', Option.bind (if f (118 + 6 * n + 4) = (nI 0) then if wy f (f (97 + 5 * c + 1)) (aV f c) i = (-1) then some (nI 0) else if wy f (f (97 + 5 * c + 1)) i j = (-1) then some (nI 0) else (D152 m5 (nI n) (nI 2)).bind fun (x14 : Int32) => (D160 m5 (nI c)).bind fun (x15 : Int32) => if x15 < x14 then some (nI 0) else some (nI 1) else some (nI 0)) _ = _ ∧ _
    rw [ev, eb]
    rcases hv with ⟨rfl, hw⟩ | ⟨rfl, hw, hw1⟩
    · rw [if_neg (show ¬ (ww f c n ≠ -1 ∧ ((bp f c n).1 = -1 ∨ ww f c n < (bp f c n).2.1 ∨ (ww f c n = (bp f c n).2.1 ∧ (bp f c n).2.2 < f (118 + 6 * n + 3)))) from fun z => z.1 hw)]
      exact ⟨((bp f c n).1, (bp f c n).2.1, nI n + nI 1, m5), rfl, rfl, rfl, nI_add n 1, hmem⟩
    · show ∃ s', Option.bind (if (bp f c n).1 = (-1) then some (nI n, wy f (f (97 + 5 * c + 1)) (aV f c) i + wy f (f (97 + 5 * c + 1)) i j) else if (wy f (f (97 + 5 * c + 1)) (aV f c) i + wy f (f (97 + 5 * c + 1)) i j) < (bp f c n).2.1 then some (nI n, wy f (f (97 + 5 * c + 1)) (aV f c) i + wy f (f (97 + 5 * c + 1)) i j) else if (wy f (f (97 + 5 * c + 1)) (aV f c) i + wy f (f (97 + 5 * c + 1)) i j) = (bp f c n).2.1 then (D152 m5 (nI n) (nI 3)).bind fun (x17 : Int32) => (D152 m5 (bp f c n).1 (nI 3)).bind fun (x18 : Int32) => if x17 ≤ x18 then some ((bp f c n).1, (bp f c n).2.1) else some (nI n, wy f (f (97 + 5 * c + 1)) (aV f c) i + wy f (f (97 + 5 * c + 1)) i j) else some ((bp f c n).1, (bp f c n).2.1)) _ = _ ∧ _
      rw [← hw]
      by_cases q2 : (bp f c n).1 = -1
      · rw [if_pos q2, if_pos ⟨hw1, .inl q2⟩]
        exact ⟨(nI n, ww f c n, nI n + nI 1, m5), rfl, rfl, rfl, nI_add n 1, hmem⟩
      · rw [if_neg q2]
        by_cases q3 : ww f c n < (bp f c n).2.1
        · rw [if_pos q3, if_pos ⟨hw1, .inr (.inl q3)⟩]
          exact ⟨(nI n, ww f c n, nI n + nI 1, m5), rfl, rfl, rfl, nI_add n 1, hmem⟩
        · rw [if_neg q3]
          by_cases q4 : ww f c n = (bp f c n).2.1
          · rcases bp_or f c n with z | ⟨u, hu, eu, eu2⟩
            · exact absurd z q2
            · rw [if_pos q4, d152 hf5 (by omega) (by omega), eu, d152 hf5 (by omega) (by omega), ← eu2, ← eu]
              show ∃ s', Option.bind (if f (118 + 6 * n + 3) ≤ (bp f c n).2.2 then _ else _) _ = _ ∧ _
              by_cases q5 : f (118 + 6 * n + 3) ≤ (bp f c n).2.2
              · rw [if_pos q5, if_neg (fun z => z.2.elim q2 (fun z => z.elim q3 (fun z => absurd z.2 (Int32.not_lt.mpr q5))))]
                exact ⟨((bp f c n).1, (bp f c n).2.1, nI n + nI 1, m5), rfl, rfl, rfl, nI_add n 1, hmem⟩
              · rw [if_neg q5, if_pos ⟨hw1, .inr (.inr ⟨q4, Int32.not_le.mp q5⟩)⟩]
                exact ⟨(nI n, ww f c n, nI n + nI 1, m5), rfl, rfl, rfl, nI_add n 1, hmem⟩
          · rw [if_neg q4, if_neg (fun z => z.2.elim q2 (fun z => z.elim q3 (fun z => q4 z.1)))]
            exact ⟨((bp f c n).1, (bp f c n).2.1, nI n + nI 1, m5), rfl, rfl, rfl, nI_add n 1, hmem⟩
  · rintro ⟨x, y, t, m3⟩ ⟨hx, hy, ht, c3⟩
    replace hx : x = (bp f c (pN f)).1 := hx
    replace ht : t = nI (pN f) := ht
    replace c3 : chg (fun b => b = 137) (wI m 130 7 (nI 0)) m3 := c3
    subst hx ht
    have hf3 : rI m3 131 = f := (c3.1 131 (by decide)).trans hf1
    refine ⟨((bp f c (pN f)).1, m3), ?_, rfl, c3⟩
    show (if rI m3 131 117 ≤ nI (pN f) then _ else _) = _
    rw [hf3, V.p0, if_pos (nI_le (Nat.le_refl _) (by omega))]
end WM
