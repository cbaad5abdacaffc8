/-! A TURN in the class and in the reference, whole -/
section TT
variable {m : dM} {f : Nat → Int32}
theorem RC_168 (R : RC m 1 f) {v : Int32} : RC (wI m 1 7 v) 1 (upd f 168 v) := by
  have k : ∀ b, b ≠ 1 → rI (wI m 1 7 v) b = rI m b := fun b q => rI_wn q
  have e : ∀ x, x ≠ 168 → upd f 168 v x = f x := fun x q => upd_n q
  refine ⟨R.1.cg (fun x q => e x (by omega)) (fun b _ _ => k b (by omega)), R.2.1.cg (fun x _ q => e x (by omega)) (fun b _ _ => k b (by omega)), R.2.2.1.cg (fun x _ q => e x (by omega)) (fun b _ _ => k b (by omega)), ⟨?_, fun i hi => ?_⟩, fun j hj => ?_, ?_⟩
  · rw [k 15 (by omega), e 174 (by omega)]
    exact R.tc
  · rw [tN.cg (e 174 (by omega))] at hi
    rw [pN.cg (e 117 (by omega)), e (175 + 2 * i) (by omega), e (175 + 2 * i + 1) (by omega)]
    exact R.nt hi
  · show rI (wI m 1 7 v) 17 j = _
    rw [k 17 (by omega), e (170 + j) (by omega)]
    exact R.pt hj
  · show rI (wI m 1 7 v) 1 5 = _ ∧ rI (wI m 1 7 v) 1 6 = _ ∧ rI (wI m 1 7 v) 1 7 = _ ∧ rI (wI m 1 7 v) 1 8 = _ ∧ rI (wI m 1 7 v) 1 9 = _
    rw [e 166 (by omega), e 167 (by omega), e 169 (by omega), e 172 (by omega), e 173 (by omega), show upd f 168 v 168 = v from upd_s, rI_ws, upd_n (by decide), upd_n (by decide), upd_s, upd_n (by decide), upd_n (by decide)]
    exact ⟨R.cp, R.lm, rfl, R.fl, R.st⟩
def ST (b : Nat) : Prop := (1 ≤ b ∧ b ≤ 17) ∨ (37 ≤ b ∧ b ≤ 41)
theorem d52 (R : RC m 1 f) (V : rv f) (ho : ov f = 0) : ∃ m', D52 m = some (mvn f 4, m') ∧ chg ST m m' ∧ RC m' 1 (TF f) := by
  obtain ⟨T, hT, e168, htN⟩ := ov_t V ho
  obtain ⟨V8, e174⟩ := T8_rv V ho
  obtain ⟨y1, hy1⟩ : ∃ y, y = mvn f 4 := ⟨_, rfl⟩
  rw [← hy1]
  obtain ⟨m1, e1, c1, h1⟩ := d7 R V
  unfold D52
  rw [e1]
  show ∃ m', Option.bind (lp _ _ _) _ = _ ∧ _
  obtain ⟨⟨y0, m2⟩, e2, hx, c2, hj, hl⟩ := t1c R c1 h1
  replace hx : y0 = y1 := hx.trans hy1.symm
  rw [e2]
  have R2 : RC m2 1 (clr (mvF f)) := RC_mv R V c1 c2 hj hl
  have V2 := mv_rv V
  have c3 : chg ST m m2 := (c1.mono (fun b q => .inr q)).tr (c2.mono (fun b q => .inl (by unfold S1 at q; omega)))
  show ∃ m', Option.bind (lp _ _ _) _ = _ ∧ _
  have hg := lpx (F := 3000) (s0 := (nI 0, m2)) (f := fun (s13 : Int32 × dM) => if (nI 4) ≤ s13.1 then some (Sum.inr (α := Int32 × dM) s13.2) else (D130 s13.1).bind fun (x15 : Int32) => (gI s13.2 17 2 x15).bind fun (x16 : Int32) => (gI s13.2 6 4 s13.1).bind fun (x17 : Int32) => (D37 s13.2 s13.1 x17).bind fun (r18 : Int32 × dM) => (sI r18.2 17 2 x15 (x16 + r18.1)).bind fun (m19 : dM) => (gI m19 6 4 s13.1).bind fun (x20 : Int32) => (D45 m19 s13.1).bind fun (x21 : Int32) => (D38 m19 s13.1 x20 x21).bind fun (r22 : dM) => some (.inl (s13.1 + (nI 1), r22)))
    (K := fun (v14 : dM) => (fI v14 1 7 ((rI v14 1 7) + (nI 1))).bind fun (m23 : dM) => (D42 m23).bind fun (x24 : Int64) => (D23 m23 x24).bind fun (r25 : dM) => some (y0, r25)) (Q := fun r => r.1 = y0 ∧ chg ST m r.2 ∧ RC r.2 1 (TF f))
    (fun k s => s.1 = nI k ∧ chg ST m s.2 ∧ RC s.2 1 (P8 (clr (mvF f)) k)) (fun m' => chg ST m m' ∧ RC m' 1 (P8 (clr (mvF f)) 4)) 4 (by omega) ⟨rfl, c3, R2⟩ ?_ ?_ ?_
  · obtain ⟨⟨y, m3⟩, e3, h3, c3, R3⟩ := hg
    replace h3 : y = y0 := h3
    subst h3
    subst hx
    exact ⟨m3, e3, c3, R3⟩
  · rintro k ⟨x, m3⟩ hk ⟨hx, c3, R3⟩
    replace hx : x = nI k := hx
    replace c3 : chg ST m m3 := c3
    replace R3 : RC m3 1 (P8 (clr (mvF f)) k) := R3
    subst hx
    obtain ⟨m4, e4, c4, R4⟩ := t2s R3 (P8_rv V2 k (by omega)) hk
    refine .inl ⟨(nI k + nI 1, m4), ?_, nI_add k 1, c3.tr (c4.mono (fun b q => .inl (by omega))), R4⟩
    show (if nI 4 ≤ nI k then _ else _) = _
    rw [if_neg (nI_ge hk (by omega))]
    have e5 := congrArg (fun z => Option.bind z fun (r22 : dM) => some (Sum.inl (β := dM) (nI k + nI 1, r22))) e4
    simp only [Option.bind_assoc] at e5
    exact e5
  · rintro ⟨x, m3⟩ ⟨hx, c3, R3⟩
    replace hx : x = nI 4 := hx
    subst hx
    exact ⟨m3, (by show (if nI 4 ≤ nI 4 then _ else _) = _; rw [if_pos (nI_le (Nat.le_refl 4) (by omega))]), c3, R3⟩
  · rintro m3 ⟨c3, R3⟩
    have h168 : rI m3 1 7 = f 168 := by rw [R3.tn, P8_o V2 (by omega) 4 (by omega), cm_o (by omega) (by omega)]
    have R4 : RC (wI m3 1 7 (f 168 + nI 1)) 1 (T8 f) := RC_168 R3
    have ht4 : rI (wI m3 1 7 (f 168 + nI 1)) 15 1 = nI (tN f) := by rw [R4.tc, e174, V.t0]
    rw [h168]
    show ∃ r, Option.bind (D42 (wI m3 1 7 (f 168 + nI 1))) _ = _ ∧ _
    rw [d42 R4 V8]
    show ∃ r, Option.bind (D23 (wI m3 1 7 (f 168 + nI 1)) (lN (fL1 (T8 f)))) _ = _ ∧ _
    rw [d23 ht4 (by omega)]
    refine ⟨(y0, wI (wL (wI m3 1 7 (f 168 + nI 1)) 16 (tN f) (lN (fL1 (T8 f)))) 15 1 (nI (tN f + 1))), rfl, rfl, chg.wI (chg.wL (chg.wI c3 (.inl (by omega))) (.inl (by omega))) (.inl (by omega)), ?_⟩
    exact RC_nt R4 V8 (by omega) (by rw [tN.cg e174]; exact Nat.le_refl _) chg.rf
end TT
