/-! A TURN, as one row: moves, deliveries, the note -/
section NT
variable {m m' : dM} {f g : Nat → Int32}
theorem qV.cg {p : Nat} (hp : p < 8) (h : ∀ x, 117 ≤ x → x < 166 → g x = f x) : qV g p = qV f p := by
  unfold qV
  rw [pN.cg (h 117 (by omega) (by omega)), spt.cg hp h]
theorem f2.cg (h : ∀ x, 117 ≤ x → x < 166 → g x = f x) : f2 g = f2 f := pb_eq 4 fun i hi => qV.cg (by omega) h
theorem f1.cg (h : ∀ x, 97 ≤ x → x < 166 → g x = f x) : f1 g = f1 f := by
  have e : pa (aV g) 4 = pa (aV f) 4 := pa_eq 4 fun i hi => by
    unfold aV
    rw [h (97 + 5 * i + 0) (by omega) (by omega)]
  unfold f1
  rw [e]
  exact pb_eq 4 fun i hi => qV.cg (by omega) (fun x q1 q2 => h x (by omega) q2)
/-- the row behind a note at some place -/
def nt (f : Nat → Int32) (t : Nat) : Nat → Int32 := upd (upd (upd f (175 + 2 * t) (nI (f1 f))) (175 + 2 * t + 1) (nI (f2 f))) 174 (nI (t + 1))
theorem nt_o {t x : Nat} (h1 : x ≠ 174) (h2 : x ≠ 175 + 2 * t) (h3 : x ≠ 175 + 2 * t + 1) : nt f t x = f x := by
  unfold nt
  rw [upd_n h1, upd_n h3, upd_n h2]
theorem nt_t {t : Nat} : nt f t 174 = nI (t + 1) := upd_s
theorem tN_nt {t : Nat} (h : t ≤ 60) : tN (nt f t) = t + 1 := by
  unfold tN
  rw [nt_t, nI_clamp (by omega)]
theorem nt_0 : nt (upd f 174 (nI 0)) 0 = nt f 0 := by
  have e1 : f1 (upd f 174 (nI 0)) = f1 f := f1.cg fun x _ q => upd_n (by omega)
  have e2 : f2 (upd f 174 (nI 0)) = f2 f := f2.cg fun x _ q => upd_n (by omega)
  unfold nt
  rw [e1, e2]
  funext x
  by_cases q : x = 174
  · subst q
    rw [upd_s, upd_s]
  · by_cases q2 : x = 175 + 2 * 0 + 1
    · subst q2
      rw [upd_n q, upd_s, upd_n q, upd_s]
    · by_cases q3 : x = 175 + 2 * 0
      · subst q3
        rw [upd_n q, upd_n q2, upd_s, upd_n q, upd_n q2, upd_s]
      · rw [upd_n q, upd_n q2, upd_n q3, upd_n q, upd_n q, upd_n q2, upd_n q3]
theorem d23 {t : Nat} (h : rI m 15 1 = nI t) (h60 : t ≤ 60) {x : Int64} : D23 m x = some (wI (wL m 16 t x) 15 1 (nI (t + 1))) := by
  unfold D23
  rw [h, if_neg (nI_ge (by omega) (by omega)), sL_n (by omega) (by omega)]
  show some (wI (wL m 16 t x) 15 1 (rI (wL m 16 t x) 15 1 + nI 1)) = _
  rw [rI_wL, h, nI_add]
theorem RC_nt (R : RC m 1 f) (V : rv f) {t : Nat} (h60 : t ≤ 60) (ht : t ≤ tN f) {m1 : dM} (c1 : chg (fun b => b = 15) m m1) : RC (wI (wL m1 16 t (lN (fL1 f))) 15 1 (nI (t + 1))) 1 (nt f t) := by
  have k : ∀ b, b ≠ 15 → rI (wI (wL m1 16 t (lN (fL1 f))) 15 1 (nI (t + 1))) b = rI m b := fun b q1 => by rw [rI_wn q1, rI_wL, c1.1 b q1]
  have e : ∀ x, x < 174 → nt f t x = f x := fun x q => nt_o (by omega) (by omega) (by omega)
  refine ⟨R.1.cg (fun x q => e x (by omega)) (fun b _ _ => k b (by omega)), R.2.1.cg (fun x _ q => e x (by omega)) (fun b _ _ => k b (by omega)), R.2.2.1.cg (fun x _ q => e x (by omega)) (fun b _ _ => k b (by omega)), ⟨?_, fun i hi => ?_⟩, R.2.2.2.2.cg (fun x _ q => e x (by omega)) (fun b _ => k b (by omega))⟩
  · show rI _ 15 1 = _
    rw [rI_ws, upd_s, nt_t]
  · rw [tN_nt h60] at hi
    show nt3 (pN (nt f t)) (rL _ 16 i) _ _
    rw [rL_wI, rL_ws, pN.cg (e 117 (by omega))]
    by_cases q : i = t
    · subst q
      show nt3 (pN f) (if i = i then lN (fL1 f) else rL m1 16 i) _ _
      rw [if_pos rfl]
      have e1 : nt f i (175 + 2 * i) = nI (f1 f) := by
        unfold nt
        rw [upd_n (by omega), upd_n (by omega), upd_s]
      have e2 : nt f i (175 + 2 * i + 1) = nI (f2 f) := by
        unfold nt
        rw [upd_n (by omega), upd_s]
      rw [e1, e2]
      exact nowN V
    · show nt3 (pN f) (if i = t then lN (fL1 f) else rL m1 16 i) _ _
      rw [if_neg q, c1.2.1 16 (by omega), nt_o (by omega) (by omega) (by omega), nt_o (by omega) (by omega) (by omega)]
      exact R.nt (by omega)
theorem rv_nt (V : rv f) {t : Nat} (h60 : t ≤ 60) (ht : ∃ T, T ≤ 60 ∧ f 168 = nI T ∧ t ≤ T) : rv (nt f t) := by
  have e : ∀ x, x < 174 → nt f t x = f x := fun x q => nt_o (by omega) (by omega) (by omega)
  refine ⟨V.1.cg (fun x q => e x (by omega)), V.2.1.cg V.s24 (fun x q => e x (by omega)), V.2.2.1.cg (fun x _ q => e x (by omega)), ?_⟩
  obtain ⟨-, -, -, q4, q5, q6⟩ := V.2.2.2
  obtain ⟨T, h1, h2, h3⟩ := ht
  unfold rvN
  rw [tN_nt h60, nt_t, e 168 (by omega), e 167 (by omega), e 172 (by omega), e 173 (by omega), pN.cg (e 117 (by omega))]
  refine ⟨rfl, by omega, ⟨T, h1, h2, by omega⟩, q4, q5, fun pl hpl => ?_⟩
  rw [e (170 + pl) (by omega), q6 pl hpl]
  exact (vd.cg V.p8 (fun x _ q => e x (by omega))).symm
theorem D42_w {v : Int32} : D42 (wI m 15 1 v) = D42 m := by
  unfold D42 gI
  rw [rI_wn (show (6 : Nat) ≠ 15 by decide), rI_wn (show (10 : Nat) ≠ 15 by decide), rI_wn (show (14 : Nat) ≠ 15 by decide)]
theorem d43 (R : RC m 1 f) (V : rv f) : ∃ m', D43 m = some m' ∧ chg (fun b => b = 15 ∨ b = 16) m m' ∧ RC m' 1 (nt f 0) := by
  have e0 : rI (wI m 15 1 (nI 0)) 15 1 = nI 0 := by rw [rI_ws, upd_s]
  refine ⟨wI (wL (wI m 15 1 (nI 0)) 16 0 (lN (fL1 f))) 15 1 (nI (0 + 1)), ?_, chg.wI (chg.wL (chg.wI chg.rf (.inl rfl)) (.inr rfl)) (.inl rfl), RC_nt R V (by omega) (by omega) (chg.wI chg.rf rfl)⟩
  unfold D43
  show Option.bind (D42 (wI m 15 1 (nI 0))) _ = _
  rw [D42_w, d42 R V]
  show Option.bind (D23 (wI m 15 1 (nI 0)) (lN (fL1 f))) _ = _
  rw [d23 e0 (by omega)]
  rfl
theorem rv_drop (V : rv f) : rv (nt f 0) := by
  obtain ⟨T, h1, h2, -⟩ := V.2.2.2.2.2.1
  exact rv_nt V (by omega) ⟨T, h1, h2, by omega⟩
/-- the row behind the moves; its orders stand still -/
def mvF (f : Nat → Int32) : Nat → Int32 := fun x => if 97 ≤ x ∧ x < 117 then (if (x - 97) % 5 = 0 ∧ fin f ((x - 97) / 5) = nI 0 then eT f ((x - 97) / 5) else if (x - 97) % 5 = 3 ∧ fin f ((x - 97) / 5) = nI 0 then f x + nI 1 else if (x - 97) % 5 = 4 then fin f ((x - 97) / 5) else f x) else if x = 169 then fd f 4 else f x
theorem mv_at {c w : Nat} (hc : c < 4) (hw : w < 5) : mvF f (97 + 5 * c + w) = if w = 0 ∧ fin f c = nI 0 then eT f c else if w = 3 ∧ fin f c = nI 0 then f (97 + 5 * c + w) + nI 1 else if w = 4 then fin f c else f (97 + 5 * c + w) := by
  unfold mvF
  rw [if_pos (show 97 ≤ 97 + 5 * c + w ∧ 97 + 5 * c + w < 117 by omega), show (97 + 5 * c + w - 97) % 5 = w by omega, show (97 + 5 * c + w - 97) / 5 = c by omega]
theorem mv_o {x : Nat} (h1 : ¬ (97 ≤ x ∧ x < 117)) (h2 : x ≠ 169) : mvF f x = f x := by
  unfold mvF
  rw [if_neg h1, if_neg h2]
theorem mv_169 : mvF f 169 = fd f 4 := by
  unfold mvF
  rw [if_neg (by omega), if_pos rfl]
theorem clr_o {x : Nat} (h : ∀ c, c < 4 → x ≠ 97 + 5 * c + 2) : clr f x = f x := by
  unfold clr
  rw [O_n (h 3 (by omega)), O_n (h 2 (by omega)), O_n (h 1 (by omega)), O_n (h 0 (by omega))]
theorem clr_s {c : Nat} (hc : c < 4) : clr f (97 + 5 * c + 2) = -1 := by
  unfold clr
  have : c = 0 ∨ c = 1 ∨ c = 2 ∨ c = 3 := by omega
  rcases this with rfl | rfl | rfl | rfl
  · rw [O_n (by omega), O_n (by omega), O_n (by omega), O_s]
  · rw [O_n (by omega), O_n (by omega), O_s]
  · rw [O_n (by omega), O_s]
  · rw [O_s]
theorem cm_at {c w : Nat} (hc : c < 4) (hw : w < 5) (h2 : w ≠ 2) : clr (mvF f) (97 + 5 * c + w) = if w = 0 ∧ fin f c = nI 0 then eT f c else if w = 3 ∧ fin f c = nI 0 then f (97 + 5 * c + w) + nI 1 else if w = 4 then fin f c else f (97 + 5 * c + w) := by
  rw [clr_o (fun b hb => by omega), mv_at hc hw]
theorem cm_o {x : Nat} (h1 : ¬ (97 ≤ x ∧ x < 117)) (h2 : x ≠ 169) : clr (mvF f) x = f x := by
  rw [clr_o (fun b hb => by omega), mv_o h1 h2]
theorem cm_169 : clr (mvF f) 169 = fd f 4 := by
  rw [clr_o (fun b hb => by omega), mv_169]
/-- the last round: no move that goes fails -/
theorem fin_ok {c : Nat} (hc : c < 4) (h : fin f c = nI 0) : fl f (fin f) c = 0 := by
  have e := congrFun (fin_st f) c
  unfold rd at e
  rw [if_pos ⟨hc, h⟩, h] at e
  have := fl_le f (fin f) c
  exact (nI_eq (by omega) (by omega)).mp e
theorem an_t {P : Nat → Bool} : ∀ n i, i < n → P i = true → anyN P n = true
  | 0, i, hi, _ => by omega
  | n + 1, i, hi, h => by
    rw [an4, Bool.or_eq_true]
    by_cases e : i = n
    · rw [← e]; exact .inr h
    · exact .inl (an_t n i (by omega) h)
theorem fl_0 {g : Nat → Int32} {c : Nat} (h : fl f g c = 0) : ∀ b, b < 4 → pH f g c b = false ∧ pA f g c b = false ∧ pS f g c b = false := by
  unfold fl at h
  intro b hb
  by_cases q1 : anyN (pE f g c) 4 = true
  · rw [if_pos q1] at h; omega
  · rw [if_neg q1] at h
    by_cases q2 : anyN (pH f g c) 4 = true
    · rw [if_pos q2] at h; omega
    · rw [if_neg q2] at h
      by_cases q3 : anyN (pA f g c) 4 = true
      · rw [if_pos q3] at h; omega
      · rw [if_neg q3] at h
        by_cases q4 : anyN (pS f g c) 4 = true
        · rw [if_pos q4] at h; omega
        · exact ⟨an_f 4 (Bool.eq_false_iff.mpr q2) b hb, an_f 4 (Bool.eq_false_iff.mpr q3) b hb, an_f 4 (Bool.eq_false_iff.mpr q4) b hb⟩
/-- two couriers end apart -/
theorem apart (V : rv f) {c b : Nat} (hc : c < 4) (hb : b < 4) (hn : c ≠ b) : (if fin f c = nI 0 then eT f c else f (97 + 5 * c + 0)) ≠ (if fin f b = nI 0 then eT f b else f (97 + 5 * b + 0)) := by
  have key : ∀ c b, c < 4 → b < 4 → c ≠ b → fin f c = nI 0 → fin f b ≠ nI 0 → eT f c ≠ f (97 + 5 * b + 0) := by
    intro c b hc hb hn h1 h2 e
    have := (fl_0 (fin_ok hc h1) b hb).2.2
    unfold pS at this
    rw [decide_eq_false_iff_not] at this
    exact this ⟨Ne.symm hn, h2, e.symm⟩
  by_cases q1 : fin f c = nI 0
  · rw [if_pos q1]
    by_cases q2 : fin f b = nI 0
    · rw [if_pos q2]
      intro e
      obtain ⟨a1, a2, -⟩ := fl_0 (fin_ok hc q1) b hb
      obtain ⟨b1, -, -⟩ := fl_0 (fin_ok hb q2) c hc
      unfold pH at a1 b1
      unfold pA at a2
      rw [decide_eq_false_iff_not] at a1 b1 a2
      by_cases w : ld f (nI c) (pN f) < ld f (nI b) (pN f)
      · exact a1 ⟨Ne.symm hn, q2, e.symm, w⟩
      · by_cases w2 : ld f (nI b) (pN f) < ld f (nI c) (pN f)
        · exact b1 ⟨hn, q1, e, w2⟩
        · exact a2 ⟨Ne.symm hn, q2, e.symm, Int32.le_antisymm (Int32.not_lt.mp w) (Int32.not_lt.mp w2)⟩
    · rw [if_neg q2]
      exact key c b hc hb hn q1 q2
  · rw [if_neg q1]
    by_cases q2 : fin f b = nI 0
    · rw [if_pos q2]
      exact fun e => key b c hb hc (Ne.symm hn) q2 q1 e.symm
    · rw [if_neg q2]
      exact V.2.1.2 c hc b hb hn
theorem cm_0 {c : Nat} (hc : c < 4) : clr (mvF f) (97 + 5 * c + 0) = if fin f c = nI 0 then eT f c else f (97 + 5 * c + 0) := by
  rw [cm_at hc (by omega) (by omega)]
  simp
theorem mv_rv (V : rv f) : rv (clr (mvF f)) := by
  have e : ∀ x, x < 97 → clr (mvF f) x = f x := fun x q => cm_o (by omega) (by omega)
  refine ⟨V.1.cg e, ⟨fun c hc => ?_, fun c hc b hb hn => ?_⟩, V.2.2.1.cg (fun x q1 q2 => cm_o (by omega) (by omega)), V.2.2.2.cg V.p8 (fun x q1 q2 q3 q4 => cm_o (by omega) q4)⟩
  · refine ⟨?_, ?_, .inl (clr_s hc)⟩
    · rw [cm_0 hc]
      by_cases q : fin f c = nI 0
      · obtain ⟨s, h1, -, -, h4⟩ := g0_or V hc (fin_g q)
        rw [if_pos q, ← h4]
        exact (V.1.2.2.1 s h1).2.1
      · rw [if_neg q]
        exact (V.2.1.1 c hc).1
    · rw [cm_at hc (by omega) (by omega)]
      exact vsm V hc
  · rw [cm_0 hc, cm_0 hb]
    exact apart V hc hb hn
theorem RC_mv (R : RC m 1 f) (V : rv f) {m1 m2 : dM} (c0 : chg (fun b => 37 ≤ b ∧ b ≤ 41) m m1) (c1 : chg S1 m1 m2) (hj : ∀ j, j ≠ 8 → rI m2 1 j = rI m1 1 j) (h : L1 f m2 4) : RC m2 1 (clr (mvF f)) := by
  have R1 : RC m1 1 f := R.ch c0 (fun b h1 h2 => by omega)
  have k : ∀ b, b ≠ 1 → ¬ (6 ≤ b ∧ b ≤ 9) → rI m2 b = rI m1 b := fun b q1 q2 => c1.1 b (fun z => z.elim q1 q2)
  refine ⟨R1.1.cg (fun x q => cm_o (by omega) (by omega)) (fun b _ _ => k b (by omega) (by omega)), fun c hc => ?_, R1.2.2.1.cg (fun x q1 q2 => cm_o (by omega) (by omega)) (fun b _ _ => k b (by omega) (by omega)), R1.2.2.2.1.cg V.t61 (fun x q => cm_o (by omega) (by omega)) (fun b _ _ => ⟨k b (by omega) (by omega), c1.2.1 b (fun z => by unfold S1 at z; omega)⟩), fun j hj2 => ?_, ?_⟩
  · obtain ⟨z0, z1, z2, z3⟩ := h.2 c hc
    show bt (rI m2 5 4) c = _ ∧ rI m2 6 c = _ ∧ rI m2 7 c = _ ∧ rI m2 8 c = _ ∧ rI m2 9 c = _
    rw [k 5 (by omega) (by omega), R1.vb hc, z0, z1, z2, z3, cm_at (w := 0) hc (by omega) (by omega), cm_at (w := 1) hc (by omega) (by omega), cm_at (w := 3) hc (by omega) (by omega), cm_at (w := 4) hc (by omega) (by omega), clr_s hc]
    simp [hc]
  · show rI m2 17 j = _
    rw [k 17 (by omega) (by omega), R1.pt hj2, cm_o (by omega) (by omega)]
  · show rI m2 1 5 = _ ∧ rI m2 1 6 = _ ∧ rI m2 1 7 = _ ∧ rI m2 1 8 = _ ∧ rI m2 1 9 = _
    rw [hj 5 (by omega), hj 6 (by omega), hj 7 (by omega), hj 9 (by omega), h.1, cm_169, cm_o (x := 166) (by omega) (by omega), cm_o (x := 167) (by omega) (by omega), cm_o (x := 168) (by omega) (by omega), cm_o (x := 172) (by omega) (by omega), cm_o (x := 173) (by omega) (by omega)]
    exact ⟨R1.cp, R1.lm, R1.tn, rfl, R1.st⟩
theorem P2_o (h8 : pN f ≤ 8) {c x : Nat} (hc : c < 4) (hx : x < 118 ∨ (166 ≤ x ∧ x < 170) ∨ 172 ≤ x) : P2 f c x = f x := by
  have h8d : pN (dl f c (pN f)) ≤ 8 := by rw [pN.cg (dl_o _ 117 (by omega) (fun p _ => by omega))]; exact h8
  unfold P2
  rw [pkS_o h8d (fun p _ => by omega), dl_o _ _ (by omega) (fun p _ => by omega)]
theorem P8_o (V : rv f) {x : Nat} (hx : x < 118 ∨ (166 ≤ x ∧ x < 170) ∨ 172 ≤ x) : ∀ k, k ≤ 4 → P8 f k x = f x
  | 0, _ => rfl
  | k + 1, h => by
    show P2 (P8 f k) k x = f x
    rw [P2_o (P8_rv V k (by omega)).p8 (by omega) hx, P8_o V hx k (by omega)]
/-- the row behind a turn, but for the note -/
def T8 (f : Nat → Int32) : Nat → Int32 := upd (P8 (clr (mvF f)) 4) 168 (f 168 + nI 1)
def TF (f : Nat → Int32) : Nat → Int32 := nt (T8 f) (tN f)
theorem ov_t (V : rv f) (h : ov f = 0) : ∃ T, T + 1 ≤ 60 ∧ f 168 = nI T ∧ tN f ≤ T + 1 := by
  obtain ⟨t, h1, h2, h3⟩ := V.2.2.2.2.2.1
  obtain ⟨l, l1, l2⟩ := V.2.2.2.2.2.2.1
  unfold ov at h
  split at h
  · omega
  · split at h
    · omega
    · split at h
      · rename_i q
        rw [h2, l2, nI_ltI (by omega) (by omega)] at q
        exact ⟨t, by omega, h2, h3⟩
      · omega
theorem T8_rv (V : rv f) (h : ov f = 0) : rv (T8 f) ∧ T8 f 174 = f 174 := by
  obtain ⟨T, h1, h2, h3⟩ := ov_t V h
  have V8 := P8_rv (mv_rv V) 4 (Nat.le_refl 4)
  have e : ∀ x, x ≠ 168 → T8 f x = P8 (clr (mvF f)) 4 x := fun x q => upd_n q
  have e174 : P8 (clr (mvF f)) 4 174 = f 174 := (P8_o (mv_rv V) (by omega) 4 (by omega)).trans (cm_o (by omega) (by omega))
  refine ⟨⟨V8.1.cg (fun x q => e x (by omega)), V8.2.1.cg V8.s24 (fun x q => e x (by omega)), V8.2.2.1.cg (fun x _ q => e x (by omega)), ?_⟩, (e 174 (by omega)).trans e174⟩
  obtain ⟨q1, q2, q3, q4, q5, q6⟩ := V8.2.2.2
  unfold rvN
  rw [tN.cg (e 174 (by omega)), e 174 (by omega), e 167 (by omega), e 172 (by omega), e 173 (by omega), pN.cg (e 117 (by omega))]
  refine ⟨q1, q2, ⟨T + 1, h1, ?_, ?_⟩, q4, q5, fun pl hpl => ?_⟩
  · show upd _ 168 _ 168 = _
    rw [upd_s, h2, nI_add]
  · rw [tN.cg e174]
    omega
  · rw [e (170 + pl) (by omega), q6 pl hpl]
    exact (vd.cg V8.p8 (fun x _ q => e x (by omega))).symm
theorem TF_rv (V : rv f) (h : ov f = 0) : rv (TF f) := by
  obtain ⟨T, h1, h2, h3⟩ := ov_t V h
  obtain ⟨V1, e1⟩ := T8_rv V h
  refine rv_nt V1 (by omega) ⟨T + 1, h1, ?_, h3⟩
  show upd _ 168 _ 168 = _
  rw [upd_s, h2, nI_add]
end NT
