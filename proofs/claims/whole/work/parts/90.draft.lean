
/-! A TURN, as one row: moves, deliveries, the note -/
section NT
variable {m m' : dM} {f g : Nat → Int32}
theorem qV.cg {p : Nat} (hp : p < 8) (h : ∀ x, 117 ≤ x → x < 166 → g x = f x) : qV g p = qV f p := by
  unfold qV
  rw [pN.cg (h 117 (by omega) (by omega)), spt.cg hp h]
theorem f2.cg (h : ∀ x, 117 ≤ x → x < 166 → g x = f x) : f2 g = f2 f := pb_eq 4 fun i hi => qV.cg (by omega) h
theorem f1.cg (h : ∀ x, 97 ≤ x → x < 166 → g x = f x) : f1 g = f1 f := by
  have e : pa (aV g) 4 = pa (aV f) 4 := pa_eq 4 fun i hi => by
    unfold aV
    rw [h (97 + 5 * i + 0) (by omega) (by omega)]
  unfold f1
  rw [e]
  exact pb_eq 4 fun i hi => qV.cg (by omega) (fun x q1 q2 => h x (by omega) q2)
/-- the row behind a note at some place -/
def nt (f : Nat → Int32) (t : Nat) : Nat → Int32 := upd (upd (upd f (175 + 2 * t) (nI (f1 f))) (175 + 2 * t + 1) (nI (f2 f))) 174 (nI (t + 1))
theorem nt_o {t x : Nat} (h1 : x ≠ 174) (h2 : x ≠ 175 + 2 * t) (h3 : x ≠ 175 + 2 * t + 1) : nt f t x = f x := by
  unfold nt
  rw [upd_n h1, upd_n h3, upd_n h2]
theorem nt_t {t : Nat} : nt f t 174 = nI (t + 1) := upd_s
theorem tN_nt {t : Nat} (h : t ≤ 60) : tN (nt f t) = t + 1 := by
  unfold tN
  rw [nt_t, nI_clamp (by omega)]
theorem d164 (hf : rI m 131 = f) (hC : rvC f) (hP : rvP f) {t : Nat} (ht : f 174 = nI t) (h60 : t ≤ 60) : ∃ m', D164 m = some m' ∧ chg (fun b => b = 131) m m' ∧ rI m' 131 = nt f t := by
  unfold D164
  rw [d162 hf hC hP, hf, ht, nI_mul, nI_add]
  show ∃ m', Option.bind (sI m 131 299 (nI (175 + 2 * t)) (nI (f1 f))) _ = _ ∧ _
  rw [sI_n (by omega) (by omega)]
  have hf2 : rI (wI m 131 (175 + 2 * t) (nI (f1 f))) 131 = upd f (175 + 2 * t) (nI (f1 f)) := by rw [rI_ws, hf]
  have hP2 : rvP (upd f (175 + 2 * t) (nI (f1 f))) := hP.cg fun x _ q => upd_n (by omega)
  show ∃ m', Option.bind (D163 (wI m 131 (175 + 2 * t) (nI (f1 f)))) _ = _ ∧ _
  rw [d163 hf2 hP2, hf2, upd_n (show 174 ≠ 175 + 2 * t by omega), ht, nI_mul, nI_add, nI_add, f2.cg (f := f) (fun x _ q => upd_n (by omega))]
  show ∃ m', Option.bind (sI (wI m 131 (175 + 2 * t) (nI (f1 f))) 131 299 (nI (175 + 2 * t + 1)) (nI (f2 f))) _ = _ ∧ _
  rw [sI_n (by omega) (by omega)]
  show ∃ m', Option.bind (sI (wI (wI m 131 (175 + 2 * t) (nI (f1 f))) 131 (175 + 2 * t + 1) (nI (f2 f))) 131 299 (nI 174) (rI (wI (wI m 131 (175 + 2 * t) (nI (f1 f))) 131 (175 + 2 * t + 1) (nI (f2 f))) 131 174 + nI 1)) _ = _ ∧ _
  rw [sI_n (by omega) (by omega), rI_ws, hf2, upd_n (show 174 ≠ 175 + 2 * t + 1 by omega), upd_n (show 174 ≠ 175 + 2 * t by omega), ht, nI_add]
  refine ⟨_, rfl, chg.wI (chg.wI (chg.wI chg.rf rfl) rfl) rfl, ?_⟩
  rw [rI_ws, rI_ws, hf2]
  rfl
theorem nt_0 : nt (upd f 174 (nI 0)) 0 = nt f 0 := by
  have e1 : f1 (upd f 174 (nI 0)) = f1 f := f1.cg fun x _ q => upd_n (by omega)
  have e2 : f2 (upd f 174 (nI 0)) = f2 f := f2.cg fun x _ q => upd_n (by omega)
  unfold nt
  rw [e1, e2]
  funext x
  by_cases q : x = 174
  · subst q
    rw [upd_s, upd_s]
  · by_cases q2 : x = 175 + 2 * 0 + 1
    · subst q2
      rw [upd_n q, upd_s, upd_n q, upd_s]
    · by_cases q3 : x = 175 + 2 * 0
      · subst q3
        rw [upd_n q, upd_n q2, upd_s, upd_n q, upd_n q2, upd_s]
      · rw [upd_n q, upd_n q2, upd_n q3, upd_n q, upd_n q, upd_n q2, upd_n q3]
theorem d165 (hf : rI m 131 = f) (hC : rvC f) (h24 : sN f ≤ 24) (hP : rvP f) : ∃ m', D165 m = some m' ∧ chg (fun b => b = 131) m m' ∧ rI m' 131 = nt f 0 := by
  unfold D165
  rw [sI_n (by omega) (by omega)]
  have hf2 : rI (wI m 131 174 (nI 0)) 131 = upd f 174 (nI 0) := by rw [rI_ws, hf]
  obtain ⟨m1, e1, c1, r1⟩ := d164 hf2 (hC.cg h24 fun x q => upd_n (by omega)) (hP.cg fun x _ q => upd_n (by omega)) (t := 0) upd_s (by omega)
  show ∃ m', Option.bind (D164 (wI m 131 174 (nI 0))) _ = _ ∧ _
  rw [e1]
  exact ⟨m1, rfl, (chg.wI (S := fun b => b = 131) chg.rf rfl).tr c1, r1.trans nt_0⟩
theorem d23 {t : Nat} (h : rI m 15 1 = nI t) (h60 : t ≤ 60) {x : Int64} : D23 m x = some (wI (wL m 16 t x) 15 1 (nI (t + 1))) := by
  unfold D23
  rw [h, if_neg (nI_ge (by omega) (by omega)), sL_n (by omega) (by omega)]
  show some (wI (wL m 16 t x) 15 1 (rI (wL m 16 t x) 15 1 + nI 1)) = _
  rw [rI_wL, h, nI_add]
theorem RC_nt (R : RC m 1 f) (V : rv f) {t : Nat} (h60 : t ≤ 60) (ht : t ≤ tN f) {m1 : dM} (c1 : chg (fun b => b = 15) m m1) : RC (wI (wL m1 16 t (lN (fL1 f))) 15 1 (nI (t + 1))) 1 (nt f t) := by
  have k : ∀ b, b ≠ 15 → rI (wI (wL m1 16 t (lN (fL1 f))) 15 1 (nI (t + 1))) b = rI m b := fun b q1 => by rw [rI_wn q1, rI_wL, c1.1 b q1]
  have e : ∀ x, x < 174 → nt f t x = f x := fun x q => nt_o (by omega) (by omega) (by omega)
  refine ⟨R.1.cg (fun x q => e x (by omega)) (fun b _ _ => k b (by omega)), R.2.1.cg (fun x _ q => e x (by omega)) (fun b _ _ => k b (by omega)), R.2.2.1.cg (fun x _ q => e x (by omega)) (fun b _ _ => k b (by omega)), ⟨?_, fun i hi => ?_⟩, R.2.2.2.2.cg (fun x _ q => e x (by omega)) (fun b _ => k b (by omega))⟩
  · show rI _ 15 1 = _
    rw [rI_ws, upd_s, nt_t]
  · rw [tN_nt h60] at hi
    show nt3 (pN (nt f t)) (rL _ 16 i) _ _
    rw [rL_wI, rL_ws, pN.cg (e 117 (by omega))]
    by_cases q : i = t
    · subst q
      show nt3 (pN f) (if i = i then lN (fL1 f) else rL m1 16 i) _ _
      rw [if_pos rfl]
      have e1 : nt f i (175 + 2 * i) = nI (f1 f) := by
        unfold nt
        rw [upd_n (by omega), upd_n (by omega), upd_s]
      have e2 : nt f i (175 + 2 * i + 1) = nI (f2 f) := by
        unfold nt
        rw [upd_n (by omega), upd_s]
      rw [e1, e2]
      exact nowN V
    · show nt3 (pN f) (if i = t then lN (fL1 f) else rL m1 16 i) _ _
      rw [if_neg q, c1.2.1 16 (by omega), nt_o (by omega) (by omega) (by omega), nt_o (by omega) (by omega) (by omega)]
      exact R.nt (by omega)
theorem rv_nt (V : rv f) {t : Nat} (h60 : t ≤ 60) (ht : ∃ T, T ≤ 60 ∧ f 168 = nI T ∧ t ≤ T) : rv (nt f t) := by
  have e : ∀ x, x < 174 → nt f t x = f x := fun x q => nt_o (by omega) (by omega) (by omega)
  refine ⟨V.1.cg (fun x q => e x (by omega)), V.2.1.cg V.s24 (fun x q => e x (by omega)), V.2.2.1.cg (fun x _ q => e x (by omega)), ?_⟩
  obtain ⟨-, -, -, q4, q5, q6⟩ := V.2.2.2
  obtain ⟨T, h1, h2, h3⟩ := ht
  unfold rvN
  rw [tN_nt h60, nt_t, e 168 (by omega), e 167 (by omega), e 172 (by omega), e 173 (by omega), pN.cg (e 117 (by omega))]
  refine ⟨rfl, by omega, ⟨T, h1, h2, by omega⟩, q4, q5, fun pl hpl => ?_⟩
  rw [e (170 + pl) (by omega), q6 pl hpl]
  exact (vd.cg V.p8 (fun x _ q => e x (by omega))).symm
theorem D42_w {v : Int32} : D42 (wI m 15 1 v) = D42 m := by
  unfold D42 gI
  rw [rI_wn (show (6 : Nat) ≠ 15 by decide), rI_wn (show (10 : Nat) ≠ 15 by decide), rI_wn (show (14 : Nat) ≠ 15 by decide)]
theorem d43 (R : RC m 1 f) (V : rv f) : ∃ m', D43 m = some m' ∧ chg (fun b => b = 15 ∨ b = 16) m m' ∧ RC m' 1 (nt f 0) := by
  have e0 : rI (wI m 15 1 (nI 0)) 15 1 = nI 0 := by rw [rI_ws, upd_s]
  refine ⟨wI (wL (wI m 15 1 (nI 0)) 16 0 (lN (fL1 f))) 15 1 (nI (0 + 1)), ?_, chg.wI (chg.wL (chg.wI chg.rf (.inl rfl)) (.inr rfl)) (.inl rfl), RC_nt R V (by omega) (by omega) (chg.wI chg.rf rfl)⟩
  unfold D43
  show Option.bind (D42 (wI m 15 1 (nI 0))) _ = _
  rw [D42_w, d42 R V]
  show Option.bind (D23 (wI m 15 1 (nI 0)) (lN (fL1 f))) _ = _
  rw [d23 e0 (by omega)]
  rfl
theorem rv_drop (V : rv f) : rv (nt f 0) := by
  obtain ⟨T, h1, h2, -⟩ := V.2.2.2.2.2.1
  exact rv_nt V (by omega) ⟨T, h1, h2, by omega⟩
/-- the row behind the moves; its orders stand still -/
def mvF (f : Nat → Int32) : Nat → Int32 := fun x => if 97 ≤ x ∧ x < 117 then (if (x - 97) % 5 = 0 ∧ fin f ((x - 97) / 5) = nI 0 then eT f ((x - 97) / 5) else if (x - 97) % 5 = 3 ∧ fin f ((x - 97) / 5) = nI 0 then f x + nI 1 else if (x - 97) % 5 = 4 then fin f ((x - 97) / 5) else f x) else if x = 169 then fd f 4 else f x
theorem mv_at {c w : Nat} (hc : c < 4) (hw : w < 5) : mvF f (97 + 5 * c + w) = if w = 0 ∧ fin f c = nI 0 then eT f c else if w = 3 ∧ fin f c = nI 0 then f (97 + 5 * c + w) + nI 1 else if w = 4 then fin f c else f (97 + 5 * c + w) := by
  unfold mvF
  rw [if_pos (show 97 ≤ 97 + 5 * c + w ∧ 97 + 5 * c + w < 117 by omega), show (97 + 5 * c + w - 97) % 5 = w by omega, show (97 + 5 * c + w - 97) / 5 = c by omega]
theorem mv_o {x : Nat} (h1 : ¬ (97 ≤ x ∧ x < 117)) (h2 : x ≠ 169) : mvF f x = f x := by
  unfold mvF
  rw [if_neg h1, if_neg h2]
theorem mv_169 : mvF f 169 = fd f 4 := by
  unfold mvF
  rw [if_neg (by omega), if_pos rfl]
theorem M1_eq {h : Nat → Int32} (H : M1 f h 4) : h = mvF f := by
  obtain ⟨h1, h2, h3⟩ := H
  funext x
  by_cases q : 97 ≤ x ∧ x < 117
  · obtain ⟨c, w, hc, hw, rfl⟩ : ∃ c w, c < 4 ∧ w < 5 ∧ x = 97 + 5 * c + w := ⟨(x - 97) / 5, (x - 97) % 5, by omega, by omega, by omega⟩
    obtain ⟨z0, z1, z2, z3, z4⟩ := h3 c hc
    rw [mv_at hc hw]
    have : w = 0 ∨ w = 1 ∨ w = 2 ∨ w = 3 ∨ w = 4 := by omega
    rcases this with rfl | rfl | rfl | rfl | rfl
    · rw [z0]
      simp [hc]
    · rw [z1]
      simp
    · rw [z2]
      simp
    · rw [z3]
      simp [hc]
    · rw [z4]
      simp [hc]
  · by_cases q2 : x = 169
    · rw [q2, h2, mv_169]
    · rw [h1 x q q2, mv_o q q2]
theorem clr_o {x : Nat} (h : ∀ c, c < 4 → x ≠ 97 + 5 * c + 2) : clr f x = f x := by
  unfold clr
  rw [O_n (h 3 (by omega)), O_n (h 2 (by omega)), O_n (h 1 (by omega)), O_n (h 0 (by omega))]
theorem clr_s {c : Nat} (hc : c < 4) : clr f (97 + 5 * c + 2) = -1 := by
  unfold clr
  have : c = 0 ∨ c = 1 ∨ c = 2 ∨ c = 3 := by omega
  rcases this with rfl | rfl | rfl | rfl
  · rw [O_n (by omega), O_n (by omega), O_n (by omega), O_s]
  · rw [O_n (by omega), O_n (by omega), O_s]
  · rw [O_n (by omega), O_s]
  · rw [O_s]
theorem cm_at {c w : Nat} (hc : c < 4) (hw : w < 5) (h2 : w ≠ 2) : clr (mvF f) (97 + 5 * c + w) = if w = 0 ∧ fin f c = nI 0 then eT f c else if w = 3 ∧ fin f c = nI 0 then f (97 + 5 * c + w) + nI 1 else if w = 4 then fin f c else f (97 + 5 * c + w) := by
  rw [clr_o (fun b hb => by omega), mv_at hc hw]
theorem cm_o {x : Nat} (h1 : ¬ (97 ≤ x ∧ x < 117)) (h2 : x ≠ 169) : clr (mvF f) x = f x := by
  rw [clr_o (fun b hb => by omega), mv_o h1 h2]
theorem cm_169 : clr (mvF f) 169 = fd f 4 := by
  rw [clr_o (fun b hb => by omega), mv_169]
/-- the last round: no move that goes fails -/
theorem fin_ok {c : Nat} (hc : c < 4) (h : fin f c = nI 0) : fl f (fin f) c = 0 := by
  have e := congrFun (fin_st f) c
  unfold rd at e
  rw [if_pos ⟨hc, h⟩, h] at e
  have := fl_le f (fin f) c
  exact (nI_eq (by omega) (by omega)).mp e
theorem an_t {P : Nat → Bool} : ∀ n i, i < n → P i = true → anyN P n = true
  | 0, i, hi, _ => by omega
  | n + 1, i, hi, h => by
    rw [an4, Bool.or_eq_true]
    by_cases e : i = n
    · rw [← e]; exact .inr h
    · exact .inl (an_t n i (by omega) h)
theorem fl_0 {g : Nat → Int32} {c : Nat} (h : fl f g c = 0) : ∀ b, b < 4 → pH f g c b = false ∧ pA f g c b = false ∧ pS f g c b = false := by
  unfold fl at h
  intro b hb
  by_cases q1 : anyN (pE f g c) 4 = true
  · rw [if_pos q1] at h; omega
  · rw [if_neg q1] at h
    by_cases q2 : anyN (pH f g c) 4 = true
    · rw [if_pos q2] at h; omega
    · rw [if_neg q2] at h
      by_cases q3 : anyN (pA f g c) 4 = true
      · rw [if_pos q3] at h; omega
      · rw [if_neg q3] at h
        by_cases q4 : anyN (pS f g c) 4 = true
        · rw [if_pos q4] at h; omega
        · exact ⟨an_f 4 (Bool.eq_false_iff.mpr q2) b hb, an_f 4 (Bool.eq_false_iff.mpr q3) b hb, an_f 4 (Bool.eq_false_iff.mpr q4) b hb⟩
/-- two couriers end apart -/
theorem apart (V : rv f) {c b : Nat} (hc : c < 4) (hb : b < 4) (hn : c ≠ b) : (if fin f c = nI 0 then eT f c else f (97 + 5 * c + 0)) ≠ (if fin f b = nI 0 then eT f b else f (97 + 5 * b + 0)) := by
  have key : ∀ c b, c < 4 → b < 4 → c ≠ b → fin f c = nI 0 → fin f b ≠ nI 0 → eT f c ≠ f (97 + 5 * b + 0) := by
    intro c b hc hb hn h1 h2 e
    have := (fl_0 (fin_ok hc h1) b hb).2.2
    unfold pS at this
    rw [decide_eq_false_iff_not] at this
    exact this ⟨Ne.symm hn, h2, e.symm⟩
  by_cases q1 : fin f c = nI 0
  · rw [if_pos q1]
    by_cases q2 : fin f b = nI 0
    · rw [if_pos q2]
      intro e
      obtain ⟨a1, a2, -⟩ := fl_0 (fin_ok hc q1) b hb
      obtain ⟨b1, -, -⟩ := fl_0 (fin_ok hb q2) c hc
      unfold pH at a1 b1
      unfold pA at a2
      rw [decide_eq_false_iff_not] at a1 b1 a2
      by_cases w : ld f (nI c) (pN f) < ld f (nI b) (pN f)
      · exact a1 ⟨Ne.symm hn, q2, e.symm, w⟩
      · by_cases w2 : ld f (nI b) (pN f) < ld f (nI c) (pN f)
        · exact b1 ⟨hn, q1, e, w2⟩
        · exact a2 ⟨Ne.symm hn, q2, e.symm, Int32.le_antisymm (Int32.not_lt.mp w) (Int32.not_lt.mp w2)⟩
    · rw [if_neg q2]
      exact key c b hc hb hn q1 q2
  · rw [if_neg q1]
    by_cases q2 : fin f b = nI 0
    · rw [if_pos q2]
      exact fun e => key b c hb hc (Ne.symm hn) q2 q1 e.symm
    · rw [if_neg q2]
      exact V.2.1.2 c hc b hb hn
theorem cm_0 {c : Nat} (hc : c < 4) : clr (mvF f) (97 + 5 * c + 0) = if fin f c = nI 0 then eT f c else f (97 + 5 * c + 0) := by
  rw [cm_at hc (by omega) (by omega)]
  simp
theorem mv_rv (V : rv f) : rv (clr (mvF f)) := by
  have e : ∀ x, x < 97 → clr (mvF f) x = f x := fun x q => cm_o (by omega) (by omega)
  refine ⟨V.1.cg e, ⟨fun c hc => ?_, fun c hc b hb hn => ?_⟩, V.2.2.1.cg (fun x q1 q2 => cm_o (by omega) (by omega)), V.2.2.2.cg V.p8 (fun x q1 q2 q3 q4 => cm_o (by omega) q4)⟩
  · refine ⟨?_, ?_, .inl (clr_s hc)⟩
    · rw [cm_0 hc]
      by_cases q : fin f c = nI 0
      · obtain ⟨s, h1, -, -, h4⟩ := g0_or V hc (fin_g q)
        rw [if_pos q, ← h4]
        exact (V.1.2.2.1 s h1).2.1
      · rw [if_neg q]
        exact (V.2.1.1 c hc).1
    · rw [cm_at hc (by omega) (by omega)]
      exact vsm V hc
  · rw [cm_0 hc, cm_0 hb]
    exact apart V hc hb hn
theorem RC_mv (R : RC m 1 f) (V : rv f) {m1 m2 : dM} (c0 : chg (fun b => 37 ≤ b ∧ b ≤ 41) m m1) (c1 : chg S1 m1 m2) (hj : ∀ j, j ≠ 8 → rI m2 1 j = rI m1 1 j) (h : L1 f m2 4) : RC m2 1 (clr (mvF f)) := by
  have R1 : RC m1 1 f := R.ch c0 (fun b h1 h2 => by omega)
  have k : ∀ b, b ≠ 1 → ¬ (6 ≤ b ∧ b ≤ 9) → rI m2 b = rI m1 b := fun b q1 q2 => c1.1 b (fun z => z.elim q1 q2)
  refine ⟨R1.1.cg (fun x q => cm_o (by omega) (by omega)) (fun b _ _ => k b (by omega) (by omega)), fun c hc => ?_, R1.2.2.1.cg (fun x q1 q2 => cm_o (by omega) (by omega)) (fun b _ _ => k b (by omega) (by omega)), R1.2.2.2.1.cg V.t61 (fun x q => cm_o (by omega) (by omega)) (fun b _ _ => ⟨k b (by omega) (by omega), c1.2.1 b (fun z => by unfold S1 at z; omega)⟩), fun j hj2 => ?_, ?_⟩
  · obtain ⟨z0, z1, z2, z3⟩ := h.2 c hc
    show bt (rI m2 5 4) c = _ ∧ rI m2 6 c = _ ∧ rI m2 7 c = _ ∧ rI m2 8 c = _ ∧ rI m2 9 c = _
    rw [k 5 (by omega) (by omega), R1.vb hc, z0, z1, z2, z3, cm_at (w := 0) hc (by omega) (by omega), cm_at (w := 1) hc (by omega) (by omega), cm_at (w := 3) hc (by omega) (by omega), cm_at (w := 4) hc (by omega) (by omega), clr_s hc]
    simp [hc]
  · show rI m2 17 j = _
    rw [k 17 (by omega) (by omega), R1.pt hj2, cm_o (by omega) (by omega)]
  · show rI m2 1 5 = _ ∧ rI m2 1 6 = _ ∧ rI m2 1 7 = _ ∧ rI m2 1 8 = _ ∧ rI m2 1 9 = _
    rw [hj 5 (by omega), hj 6 (by omega), hj 7 (by omega), hj 9 (by omega), h.1, cm_169, cm_o (x := 166) (by omega) (by omega), cm_o (x := 167) (by omega) (by omega), cm_o (x := 168) (by omega) (by omega), cm_o (x := 172) (by omega) (by omega), cm_o (x := 173) (by omega) (by omega)]
    exact ⟨R1.cp, R1.lm, R1.tn, rfl, R1.st⟩
theorem P2_o (h8 : pN f ≤ 8) {c x : Nat} (hc : c < 4) (hx : x < 118 ∨ (166 ≤ x ∧ x < 170) ∨ 172 ≤ x) : P2 f c x = f x := by
  have h8d : pN (dl f c (pN f)) ≤ 8 := by rw [pN.cg (dl_o _ 117 (by omega) (fun p _ => by omega))]; exact h8
  unfold P2
  rw [pkS_o h8d (fun p _ => by omega), dl_o _ _ (by omega) (fun p _ => by omega)]
theorem P8_o (V : rv f) {x : Nat} (hx : x < 118 ∨ (166 ≤ x ∧ x < 170) ∨ 172 ≤ x) : ∀ k, k ≤ 4 → P8 f k x = f x
  | 0, _ => rfl
  | k + 1, h => by
    show P2 (P8 f k) k x = f x
    rw [P2_o (P8_rv V k (by omega)).p8 (by omega) hx, P8_o V hx k (by omega)]
/-- the row behind a turn, but for the note -/
def T8 (f : Nat → Int32) : Nat → Int32 := upd (P8 (clr (mvF f)) 4) 168 (f 168 + nI 1)
def TF (f : Nat → Int32) : Nat → Int32 := nt (T8 f) (tN f)
theorem ov_t (V : rv f) (h : ov f = 0) : ∃ T, T + 1 ≤ 60 ∧ f 168 = nI T ∧ tN f ≤ T + 1 := by
  obtain ⟨t, h1, h2, h3⟩ := V.2.2.2.2.2.1
  obtain ⟨l, l1, l2⟩ := V.2.2.2.2.2.2.1
  unfold ov at h
  split at h
  · omega
  · split at h
    · omega
    · split at h
      · rename_i q
        rw [h2, l2, nI_ltI (by omega) (by omega)] at q
        exact ⟨t, by omega, h2, h3⟩
      · omega
theorem T8_rv (V : rv f) (h : ov f = 0) : rv (T8 f) ∧ T8 f 174 = f 174 := by
  obtain ⟨T, h1, h2, h3⟩ := ov_t V h
  have V8 := P8_rv (mv_rv V) 4 (Nat.le_refl 4)
  have e : ∀ x, x ≠ 168 → T8 f x = P8 (clr (mvF f)) 4 x := fun x q => upd_n q
  have e174 : P8 (clr (mvF f)) 4 174 = f 174 := (P8_o (mv_rv V) (by omega) 4 (by omega)).trans (cm_o (by omega) (by omega))
  refine ⟨⟨V8.1.cg (fun x q => e x (by omega)), V8.2.1.cg V8.s24 (fun x q => e x (by omega)), V8.2.2.1.cg (fun x _ q => e x (by omega)), ?_⟩, (e 174 (by omega)).trans e174⟩
  obtain ⟨q1, q2, q3, q4, q5, q6⟩ := V8.2.2.2
  unfold rvN
  rw [tN.cg (e 174 (by omega)), e 174 (by omega), e 167 (by omega), e 172 (by omega), e 173 (by omega), pN.cg (e 117 (by omega))]
  refine ⟨q1, q2, ⟨T + 1, h1, ?_, ?_⟩, q4, q5, fun pl hpl => ?_⟩
  · show upd _ 168 _ 168 = _
    rw [upd_s, h2, nI_add]
  · rw [tN.cg e174]
    omega
  · rw [e (170 + pl) (by omega), q6 pl hpl]
    exact (vd.cg V8.p8 (fun x _ q => e x (by omega))).symm
theorem TF_rv (V : rv f) (h : ov f = 0) : rv (TF f) := by
  obtain ⟨T, h1, h2, h3⟩ := ov_t V h
  obtain ⟨V1, e1⟩ := T8_rv V h
  refine rv_nt V1 (by omega) ⟨T + 1, h1, ?_, h3⟩
  show upd _ 168 _ 168 = _
  rw [upd_s, h2, nI_add]
end NT

/-! A TURN in the class and in the reference, whole -/
section TT
variable {m : dM} {f : Nat → Int32}
theorem RC_168 (R : RC m 1 f) {v : Int32} : RC (wI m 1 7 v) 1 (upd f 168 v) := by
  have k : ∀ b, b ≠ 1 → rI (wI m 1 7 v) b = rI m b := fun b q => rI_wn q
  have e : ∀ x, x ≠ 168 → upd f 168 v x = f x := fun x q => upd_n q
  refine ⟨R.1.cg (fun x q => e x (by omega)) (fun b _ _ => k b (by omega)), R.2.1.cg (fun x _ q => e x (by omega)) (fun b _ _ => k b (by omega)), R.2.2.1.cg (fun x _ q => e x (by omega)) (fun b _ _ => k b (by omega)), ⟨?_, fun i hi => ?_⟩, fun j hj => ?_, ?_⟩
  · rw [k 15 (by omega), e 174 (by omega)]
    exact R.tc
  · rw [tN.cg (e 174 (by omega))] at hi
    rw [pN.cg (e 117 (by omega)), e (175 + 2 * i) (by omega), e (175 + 2 * i + 1) (by omega)]
    exact R.nt hi
  · show rI (wI m 1 7 v) 17 j = _
    rw [k 17 (by omega), e (170 + j) (by omega)]
    exact R.pt hj
  · show rI (wI m 1 7 v) 1 5 = _ ∧ rI (wI m 1 7 v) 1 6 = _ ∧ rI (wI m 1 7 v) 1 7 = _ ∧ rI (wI m 1 7 v) 1 8 = _ ∧ rI (wI m 1 7 v) 1 9 = _
    rw [e 166 (by omega), e 167 (by omega), e 169 (by omega), e 172 (by omega), e 173 (by omega), show upd f 168 v 168 = v from upd_s, rI_ws, upd_n (by decide), upd_n (by decide), upd_s, upd_n (by decide), upd_n (by decide)]
    exact ⟨R.cp, R.lm, rfl, R.fl, R.st⟩
def ST (b : Nat) : Prop := b ≤ 17 ∨ (37 ≤ b ∧ b ≤ 41)
theorem d52 (R : RC m 1 f) (V : rv f) (ho : ov f = 0) : ∃ m', D52 m = some (mvn f 4, m') ∧ chg ST m m' ∧ RC m' 1 (TF f) := by
  obtain ⟨T, hT, e168, htN⟩ := ov_t V ho
  obtain ⟨V8, e174⟩ := T8_rv V ho
  obtain ⟨y1, hy1⟩ : ∃ y, y = mvn f 4 := ⟨_, rfl⟩
  rw [← hy1]
  obtain ⟨m1, e1, c1, h1⟩ := d7 R V
  unfold D52
  rw [e1]
  show ∃ m', Option.bind (lp _ _ _) _ = _ ∧ _
  obtain ⟨⟨y0, m2⟩, e2, hx, c2, hj, hl⟩ := t1c R c1 h1
  replace hx : y0 = y1 := hx.trans hy1.symm
  rw [e2]
  have R2 : RC m2 1 (clr (mvF f)) := RC_mv R V c1 c2 hj hl
  have V2 := mv_rv V
  have c3 : chg ST m m2 := (c1.mono (fun b q => .inr q)).tr (c2.mono (fun b q => .inl (by unfold S1 at q; omega)))
  show ∃ m', Option.bind (lp _ _ _) _ = _ ∧ _
  have hg := lpx (F := 3000) (s0 := (nI 0, m2)) (f := fun (s13 : Int32 × dM) => if (nI 4) ≤ s13.1 then some (Sum.inr (α := Int32 × dM) s13.2) else (D130 s13.1).bind fun (x15 : Int32) => (gI s13.2 17 2 x15).bind fun (x16 : Int32) => (gI s13.2 6 4 s13.1).bind fun (x17 : Int32) => (D37 s13.2 s13.1 x17).bind fun (r18 : Int32 × dM) => (sI r18.2 17 2 x15 (x16 + r18.1)).bind fun (m19 : dM) => (gI m19 6 4 s13.1).bind fun (x20 : Int32) => (D45 m19 s13.1).bind fun (x21 : Int32) => (D38 m19 s13.1 x20 x21).bind fun (r22 : dM) => some (.inl (s13.1 + (nI 1), r22)))
    (K := fun (v14 : dM) => (fI v14 1 7 ((rI v14 1 7) + (nI 1))).bind fun (m23 : dM) => (D42 m23).bind fun (x24 : Int64) => (D23 m23 x24).bind fun (r25 : dM) => some (y0, r25)) (Q := fun r => r.1 = y0 ∧ chg ST m r.2 ∧ RC r.2 1 (TF f))
    (fun k s => s.1 = nI k ∧ chg ST m s.2 ∧ RC s.2 1 (P8 (clr (mvF f)) k)) (fun m' => chg ST m m' ∧ RC m' 1 (P8 (clr (mvF f)) 4)) 4 (by omega) ⟨rfl, c3, R2⟩ ?_ ?_ ?_
  · obtain ⟨⟨y, m3⟩, e3, h3, c3, R3⟩ := hg
    replace h3 : y = y0 := h3
    subst h3
    subst hx
    exact ⟨m3, e3, c3, R3⟩
  · rintro k ⟨x, m3⟩ hk ⟨hx, c3, R3⟩
    replace hx : x = nI k := hx
    replace c3 : chg ST m m3 := c3
    replace R3 : RC m3 1 (P8 (clr (mvF f)) k) := R3
    subst hx
    obtain ⟨m4, e4, c4, R4⟩ := t2s R3 (P8_rv V2 k (by omega)) hk
    refine .inl ⟨(nI k + nI 1, m4), ?_, nI_add k 1, c3.tr (c4.mono (fun b q => .inl (by omega))), R4⟩
    show (if nI 4 ≤ nI k then _ else _) = _
    rw [if_neg (nI_ge hk (by omega))]
    have e5 := congrArg (fun z => Option.bind z fun (r22 : dM) => some (Sum.inl (β := dM) (nI k + nI 1, r22))) e4
    simp only [Option.bind_assoc] at e5
    exact e5
  · rintro ⟨x, m3⟩ ⟨hx, c3, R3⟩
    replace hx : x = nI 4 := hx
    subst hx
    exact ⟨m3, (by show (if nI 4 ≤ nI 4 then _ else _) = _; rw [if_pos (nI_le (Nat.le_refl 4) (by omega))]), c3, R3⟩
  · rintro m3 ⟨c3, R3⟩
    have h168 : rI m3 1 7 = f 168 := by rw [R3.tn, P8_o V2 (by omega) 4 (by omega), cm_o (by omega) (by omega)]
    have R4 : RC (wI m3 1 7 (f 168 + nI 1)) 1 (T8 f) := RC_168 R3
    have ht4 : rI (wI m3 1 7 (f 168 + nI 1)) 15 1 = nI (tN f) := by rw [R4.tc, e174, V.t0]
    rw [h168]
    show ∃ r, Option.bind (D42 (wI m3 1 7 (f 168 + nI 1))) _ = _ ∧ _
    rw [d42 R4 V8]
    show ∃ r, Option.bind (D23 (wI m3 1 7 (f 168 + nI 1)) (lN (fL1 (T8 f)))) _ = _ ∧ _
    rw [d23 ht4 (by omega)]
    refine ⟨(y0, wI (wL (wI m3 1 7 (f 168 + nI 1)) 16 (tN f) (lN (fL1 (T8 f)))) 15 1 (nI (tN f + 1))), rfl, rfl, chg.wI (chg.wL (chg.wI c3 (.inl (by omega))) (.inl (by omega))) (.inl (by omega)), ?_⟩
    exact RC_nt R4 V8 (by omega) (by rw [tN.cg e174]; exact Nat.le_refl _) chg.rf
def SU (b : Nat) : Prop := b = 131 ∨ b = 135 ∨ b = 136
theorem d176 (hf : rI m 131 = f) (V : rv f) (ho : ov f = 0) : ∃ m', D176 m = some (mvn f 4, m') ∧ chg SU m m' ∧ rI m' 131 = TF f := by
  obtain ⟨T, hT, e168, htN⟩ := ov_t V ho
  obtain ⟨V8, e174⟩ := T8_rv V ho
  obtain ⟨y1, hy1⟩ : ∃ y, y = mvn f 4 := ⟨_, rfl⟩
  rw [← hy1]
  obtain ⟨m1, e1, c1, h1⟩ := d172 hf V
  have hf1 : rI m1 131 = f := (c1.1 131 (by omega)).trans hf
  unfold D176
  rw [e1]
  show ∃ m', Option.bind (lp _ _ _) _ = _ ∧ _
  obtain ⟨⟨y0, m2⟩, e2, hx, c2, hl⟩ := t1m V hf1 h1
  replace hx : y0 = y1 := hx.trans hy1.symm
  replace c2 : chg (fun b => b = 131) m1 m2 := c2
  rw [e2]
  have r2 : rI m2 131 = mvF f := M1_eq hl
  have c3 : chg SU m m2 := (c1.mono (fun b q => by unfold SU; omega)).tr (c2.mono (fun b q => .inl q))
  have Pm : rvP (mvF f) := V.2.2.1.cg fun x q1 q2 => mv_o (by omega) (by omega)
  show ∃ m', Option.bind (lp _ _ _) _ = _ ∧ _
  have hg := lpx (F := 3000) (s0 := (nI 0, m2)) (f := fun (s16 : Int32 × dM) => if (nI 4) ≤ s16.1 then some (Sum.inr (α := Int32 × dM) s16.2) else (D175 s16.2 s16.1).bind fun (r18 : dM) => (D151 r18 s16.1 (nI 2) (-1)).bind fun (r19 : dM) => some (.inl (s16.1 + (nI 1), r19)))
    (K := fun (v17 : dM) => (sI v17 131 299 (nI 168) ((rI v17 131 168) + (nI 1))).bind fun (m20 : dM) => (D164 m20).bind fun (r21 : dM) => some (y0, r21)) (Q := fun r => r.1 = y0 ∧ chg SU m r.2 ∧ rI r.2 131 = TF f)
    (fun k s => s.1 = nI k ∧ chg SU m s.2 ∧ rI s.2 131 = H8 (mvF f) k) (fun m' => chg SU m m' ∧ rI m' 131 = H8 (mvF f) 4) 4 (by omega) ⟨rfl, c3, r2⟩ ?_ ?_ ?_
  · obtain ⟨⟨y, m3⟩, e3, h3, c3, r3⟩ := hg
    replace h3 : y = y0 := h3
    subst h3
    subst hx
    exact ⟨m3, e3, c3, r3⟩
  · rintro k ⟨x, m3⟩ hk ⟨hx, c3, r3⟩
    replace hx : x = nI k := hx
    replace c3 : chg SU m m3 := c3
    replace r3 : rI m3 131 = H8 (mvF f) k := r3
    subst hx
    obtain ⟨m4, e4, c4, r4⟩ := d175 r3 (H8_P Pm k (by omega)) hk
    refine .inl ⟨(nI k + nI 1, wI m4 131 (97 + 5 * k + 2) (-1)), ?_, nI_add k 1, chg.wI (c3.tr (c4.mono (fun b q => .inl q))) (.inl rfl), ?_⟩
    · show (if nI 4 ≤ nI k then _ else Option.bind (D175 m3 (nI k)) _) = _
      rw [if_neg (nI_ge hk (by omega)), e4]
      show Option.bind (D151 m4 (nI k) (nI 2) (-1)) _ = _
      rw [d151 hk (by omega)]
      rfl
    · show rI (wI m4 131 (97 + 5 * k + 2) (-1)) 131 = O (P2 (H8 (mvF f) k) k) k
      rw [rI_ws, r4]
      rfl
  · rintro ⟨x, m3⟩ ⟨hx, c3, r3⟩
    replace hx : x = nI 4 := hx
    subst hx
    exact ⟨m3, (by show (if nI 4 ≤ nI 4 then _ else _) = _; rw [if_pos (nI_le (Nat.le_refl 4) (by omega))]), c3, r3⟩
  · rintro m3 ⟨c3, r3⟩
    have r3' : rI m3 131 = P8 (clr (mvF f)) 4 := r3.trans H8_clr
    have h168 : rI m3 131 168 = f 168 := by rw [r3', P8_o (mv_rv V) (by omega) 4 (by omega), cm_o (by omega) (by omega)]
    rw [h168, sI_n (by omega) (by omega)]
    have r4 : rI (wI m3 131 168 (f 168 + nI 1)) 131 = T8 f := by rw [rI_ws, r3']; rfl
    obtain ⟨m5, e5, c5, r5⟩ := d164 r4 V8.2.1 V8.2.2.1 (t := tN f) (e174.trans V.t0) (by omega)
    show ∃ r, Option.bind (D164 (wI m3 131 168 (f 168 + nI 1))) _ = _ ∧ _
    rw [e5]
    exact ⟨(y0, m5), rfl, rfl, (chg.wI c3 (.inl rfl)).tr (c5.mono (fun b q => .inl q)), r5⟩
end TT

/-! SAVED STATES: copies of states, saving -/
/-- changed only there, and perhaps the order of the saved states -/
def chw (S : Nat → Prop) (m m' : dM) : Prop := (∀ b, ¬ S b → rI m' b = rI m b) ∧ (∀ b, ¬ S b → rL m' b = rL m b) ∧ m'.1 = m.1
theorem chw.rf {S : Nat → Prop} {m : dM} : chw S m m := ⟨fun _ _ => rfl, fun _ _ => rfl, rfl⟩
theorem chw.tr {S : Nat → Prop} {m m' m'' : dM} (h : chw S m m') (k : chw S m' m'') : chw S m m'' := ⟨fun b q => (k.1 b q).trans (h.1 b q), fun b q => (k.2.1 b q).trans (h.2.1 b q), k.2.2.trans h.2.2⟩
theorem chw.mono {S T : Nat → Prop} {m m' : dM} (h : chw S m m') (k : ∀ b, S b → T b) : chw T m m' := ⟨fun b q => h.1 b (fun z => q (k b z)), fun b q => h.2.1 b (fun z => q (k b z)), h.2.2⟩
theorem chg.w {S : Nat → Prop} {m m' : dM} (h : chg S m m') : chw S m m' := ⟨h.1, h.2.1, h.2.2.2⟩
theorem chw.wI {S : Nat → Prop} {m m' : dM} {a j : Nat} {v : Int32} (h : chw S m m') (ha : S a) : chw S m (wI m' a j v) := ⟨fun b q => (rI_wn (fun (e : b = a) => q (by rw [e]; exact ha))).trans (h.1 b q), h.2⟩
theorem chw.wL {S : Nat → Prop} {m m' : dM} {a j : Nat} {v : Int64} (h : chw S m m') (ha : S a) : chw S m (wL m' a j v) := ⟨h.1, fun b q => (rL_wn (fun (e : b = a) => q (by rw [e]; exact ha))).trans (h.2.1 b q), h.2.2⟩
theorem RC.chw {m m' : dM} {B : Nat} {f : Nat → Int32} {S : Nat → Prop} (R : RC m B f) (h : chw S m m') (q : ∀ b, B ≤ b → b ≤ B + 16 → ¬ S b) : RC m' B f := R.cg fun b h1 h2 => ⟨h.1 b (q b h1 h2), h.2.1 b (q b h1 h2)⟩
/-- one state copied over another -/
def K41 (A B : Nat) (m : dM) : dM := wI (wI (wI (wI (wI (cI (wI (cL (wI (cI (cI (cI (cI (wI (cI (cI (cI (cI (wI (wI (wI (cI (cI m (A + 2) (B + 2) 24) (A + 3) (B + 3) 24) (B + 1) 2 (rI m (A + 1) 2)) (B + 1) 3 (rI m (A + 1) 3)) (B + 1) 4 (rI m (A + 1) 4)) (A + 5) (B + 5) 4) (A + 6) (B + 6) 4) (A + 7) (B + 7) 4) (A + 8) (B + 8) 4) (B + 4) 4 (rI m (A + 4) 4)) (A + 10) (B + 10) 8) (A + 11) (B + 11) 8) (A + 12) (B + 12) 8) (A + 13) (B + 13) 8) (B + 9) 4 (rI m (A + 9) 4)) (A + 15) (B + 15) 61) (B + 14) 1 (rI m (A + 14) 1)) (A + 16) (B + 16) 2) B 5 (rI m A 5)) B 6 (rI m A 6)) B 7 (rI m A 7)) B 8 (rI m A 8)) B 9 (rI m A 9)
theorem c1_wI {m : dM} {a j : Nat} {v : Int32} : (wI m a j v).1 = m.1 := rfl
theorem c1_cI {m : dM} {a b n : Nat} : (cI m a b n).1 = m.1 := rfl
theorem c1_cL {m : dM} {a b n : Nat} : (cL m a b n).1 = m.1 := rfl
section K4
variable {m : dM} {f : Nat → Int32} {A B : Nat}
theorem K41_c : chg (fun b => B ≤ b ∧ b ≤ B + 16) m (K41 A B m) := by
  refine ⟨fun b q => ?_, fun b q => ?_, ?_, ?_⟩
  · replace q : ¬ (B ≤ b ∧ b ≤ B + 16) := q
    unfold K41
    simp (disch := omega) only [rI_wn, rI_cn, rI_cL]
  · replace q : ¬ (B ≤ b ∧ b ≤ B + 16) := q
    unfold K41
    simp (disch := omega) only [rL_wI, rL_cI, rL_cn]
  · unfold K41
    simp only [rR_wI, rR_cI, rR_cL]
  · unfold K41
    simp only [c1_wI, c1_cI, c1_cL]
theorem K41_R (h : B + 16 < A ∨ A + 16 < B) (R : RC m A f) (ht : tN f ≤ 61) : RC (K41 A B m) B f := by
  obtain ⟨R1, R2, R3, R4, R5⟩ := R
  have e0 : rI (K41 A B m) B = upd (upd (upd (upd (upd (rI m B) 5 (rI m A 5)) 6 (rI m A 6)) 7 (rI m A 7)) 8 (rI m A 8)) 9 (rI m A 9) := by
    unfold K41
    simp (disch := omega) only [rI_ws, rI_wn, rI_cn, rI_cL]
  have e1 : rI (K41 A B m) (B + 1) = upd (upd (upd (rI m (B + 1)) 2 (rI m (A + 1) 2)) 3 (rI m (A + 1) 3)) 4 (rI m (A + 1) 4) := by
    unfold K41
    simp (disch := omega) only [rI_ws, rI_wn, rI_cn, rI_cL]
  have e2 : rI (K41 A B m) (B + 2) = fun j => if j < 24 then rI m (A + 2) j else rI m (B + 2) j := by
    unfold K41
    simp (disch := omega) only [rI_cs, rI_wn, rI_cn, rI_cL]
  have e3 : rI (K41 A B m) (B + 3) = fun j => if j < 24 then rI m (A + 3) j else rI m (B + 3) j := by
    unfold K41
    simp (disch := omega) only [rI_cs, rI_wn, rI_cn, rI_cL]
  have e4 : rI (K41 A B m) (B + 4) = upd (rI m (B + 4)) 4 (rI m (A + 4) 4) := by
    unfold K41
    simp (disch := omega) only [rI_ws, rI_wn, rI_cn, rI_cL]
  have e5 : rI (K41 A B m) (B + 5) = fun j => if j < 4 then rI m (A + 5) j else rI m (B + 5) j := by
    unfold K41
    simp (disch := omega) only [rI_cs, rI_wn, rI_cn, rI_cL]
  have e6 : rI (K41 A B m) (B + 6) = fun j => if j < 4 then rI m (A + 6) j else rI m (B + 6) j := by
    unfold K41
    simp (disch := omega) only [rI_cs, rI_wn, rI_cn, rI_cL]
  have e7 : rI (K41 A B m) (B + 7) = fun j => if j < 4 then rI m (A + 7) j else rI m (B + 7) j := by
    unfold K41
    simp (disch := omega) only [rI_cs, rI_wn, rI_cn, rI_cL]
  have e8 : rI (K41 A B m) (B + 8) = fun j => if j < 4 then rI m (A + 8) j else rI m (B + 8) j := by
    unfold K41
    simp (disch := omega) only [rI_cs, rI_wn, rI_cn, rI_cL]
  have e9 : rI (K41 A B m) (B + 9) = upd (rI m (B + 9)) 4 (rI m (A + 9) 4) := by
    unfold K41
    simp (disch := omega) only [rI_ws, rI_wn, rI_cn, rI_cL]
  have e10 : rI (K41 A B m) (B + 10) = fun j => if j < 8 then rI m (A + 10) j else rI m (B + 10) j := by
    unfold K41
    simp (disch := omega) only [rI_cs, rI_wn, rI_cn, rI_cL]
  have e11 : rI (K41 A B m) (B + 11) = fun j => if j < 8 then rI m (A + 11) j else rI m (B + 11) j := by
    unfold K41
    simp (disch := omega) only [rI_cs, rI_wn, rI_cn, rI_cL]
  have e12 : rI (K41 A B m) (B + 12) = fun j => if j < 8 then rI m (A + 12) j else rI m (B + 12) j := by
    unfold K41
    simp (disch := omega) only [rI_cs, rI_wn, rI_cn, rI_cL]
  have e13 : rI (K41 A B m) (B + 13) = fun j => if j < 8 then rI m (A + 13) j else rI m (B + 13) j := by
    unfold K41
    simp (disch := omega) only [rI_cs, rI_wn, rI_cn, rI_cL]
  have e14 : rI (K41 A B m) (B + 14) = upd (rI m (B + 14)) 1 (rI m (A + 14) 1) := by
    unfold K41
    simp (disch := omega) only [rI_ws, rI_wn, rI_cn, rI_cL]
  have e15 : rL (K41 A B m) (B + 15) = fun j => if j < 61 then rL m (A + 15) j else rL m (B + 15) j := by
    unfold K41
    simp (disch := omega) only [rL_cs, rL_wI, rL_cI]
  have e16 : rI (K41 A B m) (B + 16) = fun j => if j < 2 then rI m (A + 16) j else rI m (B + 16) j := by
    unfold K41
    simp (disch := omega) only [rI_cs, rI_wn, rI_cn, rI_cL]
  refine ⟨⟨?_, fun s hs => ?_⟩, fun c hc => ?_, ⟨?_, fun p hp => ?_⟩, ⟨?_, fun i hi => ?_⟩, fun j hj => ?_, ?_⟩
  · rw [e1, upd_s]
    exact R1.1
  · rw [e1, e2, e3, upd_n (by decide), upd_n (by decide), upd_s, upd_n (by decide), upd_s]
    simp only [hs, if_true]
    exact R1.2 s hs
  · rw [e4, e5, e6, e7, e8, upd_s]
    simp only [hc, if_true]
    exact R2 c hc
  · rw [e9, upd_s]
    exact R3.1
  · rw [e10, e11, e12, e13]
    simp only [hp, if_true]
    exact R3.2 p hp
  · rw [e14, upd_s]
    exact R4.1
  · rw [e15]
    simp only [show i < 61 by omega, if_true]
    exact R4.2 i hi
  · rw [e16]
    simp only [hj, if_true]
    exact R5.1 j hj
  · rw [e0, upd_n (by decide), upd_n (by decide), upd_n (by decide), upd_n (by decide), upd_s, upd_n (by decide), upd_n (by decide), upd_n (by decide), upd_s, upd_n (by decide), upd_n (by decide), upd_s, upd_n (by decide), upd_s, upd_s]
    exact R5.2
theorem k41_45_1 : D41_45_1 m = some (K41 1 45 m) := by
  simp (disch := decide) only [D41_45_1, D58_46_2, D1_49_5, D28_54_10, D22_59_15, K41, kI_e, fI_e, kL_e, Option.bind_some, rI_wn, rI_cn, rI_cL, Nat.reduceAdd]
theorem k41_62_1 : D41_62_1 m = some (K41 1 62 m) := by
  simp (disch := decide) only [D41_62_1, D58_63_2, D1_66_5, D28_71_10, D22_76_15, K41, kI_e, fI_e, kL_e, Option.bind_some, rI_wn, rI_cn, rI_cL, Nat.reduceAdd]
theorem k41_79_1 : D41_79_1 m = some (K41 1 79 m) := by
  simp (disch := decide) only [D41_79_1, D58_80_2, D1_83_5, D28_88_10, D22_93_15, K41, kI_e, fI_e, kL_e, Option.bind_some, rI_wn, rI_cn, rI_cL, Nat.reduceAdd]
theorem k41_96_1 : D41_96_1 m = some (K41 1 96 m) := by
  simp (disch := decide) only [D41_96_1, D58_97_2, D1_100_5, D28_105_10, D22_110_15, K41, kI_e, fI_e, kL_e, Option.bind_some, rI_wn, rI_cn, rI_cL, Nat.reduceAdd]
theorem k41_113_1 : D41_113_1 m = some (K41 1 113 m) := by
  simp (disch := decide) only [D41_113_1, D58_114_2, D1_117_5, D28_122_10, D22_127_15, K41, kI_e, fI_e, kL_e, Option.bind_some, rI_wn, rI_cn, rI_cL, Nat.reduceAdd]
theorem k41_1_45 : D41_1_45 m = some (K41 45 1 m) := by
  simp (disch := decide) only [D41_1_45, D58_2_46, D1_5_49, D28_10_54, D22_15_59, K41, kI_e, fI_e, kL_e, Option.bind_some, rI_wn, rI_cn, rI_cL, Nat.reduceAdd]
theorem k41_1_62 : D41_1_62 m = some (K41 62 1 m) := by
  simp (disch := decide) only [D41_1_62, D58_2_63, D1_5_66, D28_10_71, D22_15_76, K41, kI_e, fI_e, kL_e, Option.bind_some, rI_wn, rI_cn, rI_cL, Nat.reduceAdd]
theorem k41_1_79 : D41_1_79 m = some (K41 79 1 m) := by
  simp (disch := decide) only [D41_1_79, D58_2_80, D1_5_83, D28_10_88, D22_15_93, K41, kI_e, fI_e, kL_e, Option.bind_some, rI_wn, rI_cn, rI_cL, Nat.reduceAdd]
theorem k41_1_96 : D41_1_96 m = some (K41 96 1 m) := by
  simp (disch := decide) only [D41_1_96, D58_2_97, D1_5_100, D28_10_105, D22_15_110, K41, kI_e, fI_e, kL_e, Option.bind_some, rI_wn, rI_cn, rI_cL, Nat.reduceAdd]
theorem k41_1_113 : D41_1_113 m = some (K41 113 1 m) := by
  simp (disch := decide) only [D41_1_113, D58_2_114, D1_5_117, D28_10_122, D22_15_127, K41, kI_e, fI_e, kL_e, Option.bind_some, rI_wn, rI_cn, rI_cL, Nat.reduceAdd]
theorem k41_k : D41_19_1 m = some (K41 1 19 m) := by
  simp (disch := decide) only [D41_19_1, D58_20_2, D1_23_5, D28_28_10, D22_33_15, K41, kI_e, fI_e, kL_e, Option.bind_some, rI_wn, rI_cn, rI_cL, Nat.reduceAdd]
theorem k41_r : D41_1_19 m = some (K41 19 1 m) := by
  simp (disch := decide) only [D41_1_19, D58_2_20, D1_5_23, D28_10_28, D22_15_33, K41, kI_e, fI_e, kL_e, Option.bind_some, rI_wn, rI_cn, rI_cL, Nat.reduceAdd]
theorem k41_S1 {v : Nat} (h : isS v = true) : D41_S_1 m v = some (K41 1 v m) := by
  rcases isS.or h with rfl | rfl | rfl | rfl | rfl
  · unfold D41_S_1
    rw [if_pos rfl, k41_45_1]
  · unfold D41_S_1
    rw [if_neg (by decide), if_pos rfl, k41_62_1]
  · unfold D41_S_1
    rw [if_neg (by decide), if_neg (by decide), if_pos rfl, k41_79_1]
  · unfold D41_S_1
    rw [if_neg (by decide), if_neg (by decide), if_neg (by decide), if_pos rfl, k41_96_1]
  · unfold D41_S_1
    rw [if_neg (by decide), if_neg (by decide), if_neg (by decide), if_neg (by decide), if_pos rfl, k41_113_1]
theorem k41_1S {v : Nat} (h : isS v = true) : D41_1_S m v = some (K41 v 1 m) := by
  rcases isS.or h with rfl | rfl | rfl | rfl | rfl
  · unfold D41_1_S
    rw [if_pos rfl, k41_1_45]
  · unfold D41_1_S
    rw [if_neg (by decide), if_pos rfl, k41_1_62]
  · unfold D41_1_S
    rw [if_neg (by decide), if_neg (by decide), if_pos rfl, k41_1_79]
  · unfold D41_1_S
    rw [if_neg (by decide), if_neg (by decide), if_neg (by decide), if_pos rfl, k41_1_96]
  · unfold D41_1_S
    rw [if_neg (by decide), if_neg (by decide), if_neg (by decide), if_neg (by decide), if_pos rfl, k41_1_113]
end K4
/-- the class's saved states; the reference's -/
def SC (m : dM) (n : Nat) (F : Nat → Nat → Int32) : Prop := n ≤ 5 ∧ rI m 0 6 = nI n ∧ (∀ i, i < 5 → isS (rR m i) = true) ∧ (∀ i j, i < 5 → j < 5 → rR m i = rR m j → i = j) ∧ ∀ i, i < n → RC m (rR m i) (F i) ∧ rv (F i)
def SM (m : dM) (n : Nat) (F : Nat → Nat → Int32) : Prop := rI m 130 2 = nI n ∧ ∀ i, i < n → ∀ j, j < 299 → rI m 132 (299 * i + j) = F i j
def svn (n : Nat) : Nat := if n < 5 then n + 1 else 5
def svF (n : Nat) (F : Nat → Nat → Int32) (f : Nat → Int32) : Nat → Nat → Int32 := fun i => if n < 5 then (if i = n then f else F i) else (if i = 4 then f else F (i + 1))
theorem isS.far {u v : Nat} (hu : isS u = true) (hv : isS v = true) (h : u ≠ v) : u + 16 < v ∨ v + 16 < u := by
  have h1 := isS.or hu
  have h2 := isS.or hv
  omega
theorem isS.rg {u : Nat} (hu : isS u = true) : 45 ≤ u ∧ u ≤ 113 := by
  have h1 := isS.or hu
  omega
section SV
variable {m : dM} {f : Nat → Int32} {n : Nat} {F : Nat → Nat → Int32}
/-- what only a call on the state of now may change -/
theorem SC.chw {m' : dM} {S : Nat → Prop} (h : SC m n F) (c : chw S m m') (r : rR m' = rR m) (q : ∀ b, 45 ≤ b → b ≤ 129 → ¬ S b) (h0 : rI m' 0 6 = rI m 0 6) : SC m' n F := by
  obtain ⟨h1, h2, h3, h4, h5⟩ := h
  unfold SC
  rw [r, h0]
  exact ⟨h1, h2, h3, h4, fun i hi => ⟨(h5 i hi).1.chw c (fun b z1 z2 => by have := isS.rg (h3 i (by omega)); exact q b (by omega) (by omega)), (h5 i hi).2⟩⟩
theorem d131a (R : RC m 1 f) (V : rv f) (hn : n < 5) (S : SC m n F) : ∃ m', ((gR m (rI m 0 6)).bind fun (x1 : Nat) => (D41_S_1 m x1).bind fun (r2 : dM) => (fI r2 0 6 ((rI r2 0 6) + (nI 1))).bind fun (m3 : dM) => some m3) = some m' ∧ chw (fun b => b = 0 ∨ (45 ≤ b ∧ b ≤ 129)) m m' ∧ (∀ j, j ≠ 6 → rI m' 0 j = rI m 0 j) ∧ SC m' (n + 1) (fun i => if i = n then f else F i) := by
  obtain ⟨h1, h2, h3, h4, h5⟩ := S
  have hv := h3 n hn
  have hr := isS.rg hv
  have hk := K41_c (m := m) (A := 1) (B := rR m n)
  have h0 : rI (K41 1 (rR m n) m) 0 = rI m 0 := hk.1 0 (by omega)
  rw [h2, gR_n hn]
  show ∃ m', Option.bind (D41_S_1 m (rR m n)) _ = _ ∧ _
  rw [k41_S1 hv]
  refine ⟨wI (K41 1 (rR m n) m) 0 6 (rI (K41 1 (rR m n) m) 0 6 + nI 1), rfl, (hk.w.mono (fun b q => by omega)).wI (.inl rfl), fun j hj => ?_, by omega, ?_, h3, h4, fun i hi => ?_⟩
  · rw [rI_ws, upd_n hj, h0]
  · rw [rI_ws, upd_s, h0, h2, nI_add]
  · have hc : chw (fun b => b = 0 ∨ (rR m n ≤ b ∧ b ≤ rR m n + 16)) m (wI (K41 1 (rR m n) m) 0 6 (rI (K41 1 (rR m n) m) 0 6 + nI 1)) := (hk.w.mono (fun b q => .inr q)).wI (.inl rfl)
    show RC _ (rR m i) (if i = n then f else F i) ∧ rv (if i = n then f else F i)
    by_cases e : i = n
    · subst e
      rw [if_pos rfl]
      exact ⟨(K41_R (by omega) R V.t61).chw (chw.rf.wI (S := fun b => b = 0) rfl) (fun b z1 z2 => by omega), V⟩
    · rw [if_neg e]
      have hf := isS.far (h3 i (by omega)) hv (fun z => e (h4 i n (by omega) hn z))
      have hr2 := isS.rg (h3 i (by omega))
      exact ⟨(h5 i (by omega)).1.chw hc (fun b z1 z2 => by omega), (h5 i (by omega)).2⟩
theorem d131 (R : RC m 1 f) (V : rv f) (S : SC m n F) : ∃ m', D131 m = some m' ∧ chw (fun b => b = 0 ∨ (45 ≤ b ∧ b ≤ 129)) m m' ∧ (∀ j, j ≠ 6 → rI m' 0 j = rI m 0 j) ∧ SC m' (svn n) (svF n F f) := by
  unfold D131 svn svF
  by_cases hn : n < 5
  · obtain ⟨m', e, c, j0, s⟩ := d131a R V hn S
    rw [S.2.1, if_pos (nI_lt hn (by omega)), if_pos hn]
    rw [S.2.1] at e
    refine ⟨m', e, c, j0, ?_⟩
    simp only [hn, if_true]
    exact s
  · have S0 := S
    obtain ⟨h1, h2, h3, h4, h5⟩ := S0
    have e5 : n = 5 := by omega
    subst e5
    rw [h2, if_neg (by decide), if_neg hn, gR_n (by omega)]
    show ∃ m', Option.bind (lp _ _ _) _ = _ ∧ _
    simp only [hn, if_false]
    refine lpx (fun k s => s.1 = nI (k + 1) ∧ (rI s.2 = rI m ∧ rL s.2 = rL m ∧ s.2.1 = m.1) ∧ ∀ i, i < 5 → rR s.2 i = if i < k then rR m (i + 1) else rR m i) (fun v => (rI v = rI m ∧ rL v = rL m ∧ v.1 = m.1) ∧ ∀ i, i < 5 → rR v i = if i < 4 then rR m (i + 1) else rR m i) 4 (by omega) ⟨rfl, ⟨rfl, rfl, rfl⟩, fun i hi => rfl⟩ ?_ ?_ ?_
    · rintro k ⟨x, m2⟩ hk ⟨hx, ⟨a1, a2, a3⟩, r2⟩
      replace hx : x = nI (k + 1) := hx
      replace a1 : rI m2 = rI m := a1
      replace a2 : rL m2 = rL m := a2
      replace a3 : m2.1 = m.1 := a3
      replace r2 : ∀ i, i < 5 → rR m2 i = if i < k then rR m (i + 1) else rR m i := r2
      subst hx
      have e1 : rR m2 (k + 1) = rR m (k + 1) := by rw [r2 (k + 1) (by omega), if_neg (by omega)]
      refine .inl ⟨(nI (k + 1) + nI 1, wR m2 k (rR m (k + 1))), ?_, nI_add (k + 1) 1, ⟨a1, a2, a3⟩, fun i hi => ?_⟩
      · show (if nI 5 ≤ nI (k + 1) then _ else Option.bind (gR m2 (nI (k + 1))) _) = _
        rw [if_neg (nI_ge (by omega) (by omega)), gR_n (by omega), e1, nI_sub (by omega), show k + 1 - 1 = k from rfl]
        show Option.bind (sR m2 (nI k) (rR m (k + 1))) _ = _
        rw [sR_n (by omega) (h3 (k + 1) (by omega))]
        rfl
      · show rR (wR m2 k (rR m (k + 1))) i = _
        rw [rR_wR]
        show (if i = k then rR m (k + 1) else rR m2 i) = _
        by_cases e : i = k
        · subst e
          rw [if_pos rfl, if_pos (by omega)]
        · rw [if_neg e, r2 i hi]
          by_cases e2 : i < k
          · rw [if_pos e2, if_pos (by omega)]
          · rw [if_neg e2, if_neg (by omega)]
    · rintro ⟨x, m2⟩ ⟨hx, a, r2⟩
      replace hx : x = nI 5 := hx
      subst hx
      exact ⟨m2, (by show (if nI 5 ≤ nI 5 then _ else _) = _; rw [if_pos (nI_le (Nat.le_refl 5) (by omega))]), a, r2⟩
    · rintro m2 ⟨⟨a1, a2, a3⟩, r2⟩
      rw [sR_n (by omega) (h3 0 (by omega))]
      have c3 : chw (fun b => b = 0) m (wI (wR m2 4 (rR m 0)) 0 6 (nI 4)) := ⟨fun b q => by rw [rI_wn q, rI_wR, a1], fun b q => by rw [rL_wI, rL_wR, a2], a3⟩
      have r3 : ∀ i, i < 5 → rR (wI (wR m2 4 (rR m 0)) 0 6 (nI 4)) i = rR m (if i = 4 then 0 else i + 1) := by
        intro i hi
        rw [rR_wI, rR_wR]
        show (if i = 4 then rR m 0 else rR m2 i) = _
        by_cases e : i = 4
        · rw [if_pos e, if_pos e]
        · rw [if_neg e, if_neg e, r2 i hi, if_pos (by omega)]
      have R3 : RC (wI (wR m2 4 (rR m 0)) 0 6 (nI 4)) 1 f := R.chw c3 (fun b z1 z2 => by omega)
      have S3 : SC (wI (wR m2 4 (rR m 0)) 0 6 (nI 4)) 4 (fun i => F (i + 1)) := by
        refine ⟨by omega, by rw [rI_ws, upd_s], fun i hi => ?_, fun i j hi hj e => ?_, fun i hi => ?_⟩
        · rw [r3 i hi]
          exact h3 _ (by split <;> omega)
        · rw [r3 i hi, r3 j hj] at e
          have := h4 _ _ (by split <;> omega) (by split <;> omega) e
          split at this <;> split at this <;> omega
        · rw [r3 i (by omega), if_neg (by omega)]
          have := isS.rg (h3 (i + 1) (by omega))
          exact ⟨(h5 (i + 1) (by omega)).1.chw c3 (fun b z1 z2 => by omega), (h5 (i + 1) (by omega)).2⟩
      obtain ⟨m4, e4, c4, j4, S4⟩ := d131a R3 V (by omega) S3
      refine ⟨m4, ?_, (c3.mono (fun b q => .inl q)).tr c4, fun j hj => ?_, ?_⟩
      · exact e4
      · rw [j4 j hj, rI_ws, upd_n hj, rI_wR, a1]
      · exact S4
theorem d149 (S : SM m n F) (hn : n ≤ 5) (hf : rI m 131 = f) : ∃ m', D149 m = some m' ∧ chg (fun b => b = 130 ∨ b = 132) m m' ∧ (∀ j, j ≠ 2 → rI m' 130 j = rI m 130 j) ∧ SM m' (svn n) (svF n F f) := by
  obtain ⟨h1, h2⟩ := S
  -- the second half
  have half : ∀ (m1 : dM) (n1 : Nat) (F1 : Nat → Nat → Int32), n1 ≤ 4 → chg (fun b => b = 130 ∨ b = 132) m m1 → (∀ j, j ≠ 2 → rI m1 130 j = rI m 130 j) → SM m1 n1 F1 → ∃ m', ((lp (β := dM) 3000 (fun (s7 : Int32 × dM) => if (nI 299) ≤ s7.1 then some (.inr s7.2) else (gI s7.2 131 299 s7.1).bind fun (x9 : Int32) => (sI s7.2 132 1495 (((nI 299) * (rI s7.2 130 2)) + s7.1) x9).bind fun (m10 : dM) => some (.inl (s7.1 + (nI 1), m10))) (nI 0, m1)).bind fun (v8 : dM) => (fI v8 130 2 ((rI v8 130 2) + (nI 1))).bind fun (m11 : dM) => some m11) = some m' ∧ chg (fun b => b = 130 ∨ b = 132) m m' ∧ (∀ j, j ≠ 2 → rI m' 130 j = rI m 130 j) ∧ SM m' (n1 + 1) (fun i => if i = n1 then f else F1 i) := by
    intro m1 n1 F1 hn1 c1 j1 ⟨s1, s2⟩
    have hf1 : rI m1 131 = f := (c1.1 131 (by omega)).trans hf
    refine lpx (fun k s => s.1 = nI k ∧ chg (fun b => b = 132) m1 s.2 ∧ ∀ j, rI s.2 132 j = if 299 * n1 ≤ j ∧ j < 299 * n1 + k then f (j - 299 * n1) else rI m1 132 j) (fun m2 => chg (fun b => b = 132) m1 m2 ∧ ∀ j, rI m2 132 j = if 299 * n1 ≤ j ∧ j < 299 * n1 + 299 then f (j - 299 * n1) else rI m1 132 j) 299 (by omega) ⟨rfl, chg.rf, fun j => by rw [if_neg (by omega)]⟩ ?_ ?_ ?_
    · rintro k ⟨x, m2⟩ hk ⟨hx, c2, r2⟩
      replace hx : x = nI k := hx
      replace c2 : chg (fun b => b = 132) m1 m2 := c2
      replace r2 : ∀ j, rI m2 132 j = if 299 * n1 ≤ j ∧ j < 299 * n1 + k then f (j - 299 * n1) else rI m1 132 j := r2
      subst hx
      refine .inl ⟨(nI k + nI 1, wI m2 132 (299 * n1 + k) (f k)), ?_, nI_add k 1, chg.wI c2 rfl, fun j => ?_⟩
      · show (if nI 299 ≤ nI k then _ else Option.bind (gI m2 131 299 (nI k)) _) = _
        rw [if_neg (nI_ge hk (by omega)), gI_n hk (by omega), c2.1 131 (by omega), hf1]
        show Option.bind (sI m2 132 1495 (nI 299 * rI m2 130 2 + nI k) (f k)) _ = _
        rw [c2.1 130 (by omega), s1, nI_mul, nI_add, sI_n (by omega) (by omega)]
        rfl
      · show rI (wI m2 132 (299 * n1 + k) (f k)) 132 j = _
        rw [rI_ws]
        by_cases e : j = 299 * n1 + k
        · subst e
          rw [upd_s, if_pos (by omega), show 299 * n1 + k - 299 * n1 = k by omega]
        · rw [upd_n e, r2 j]
          by_cases q : 299 * n1 ≤ j ∧ j < 299 * n1 + k
          · rw [if_pos q, if_pos (by omega)]
          · rw [if_neg q, if_neg (by omega)]
    · rintro ⟨x, m2⟩ ⟨hx, c2, r2⟩
      replace hx : x = nI 299 := hx
      subst hx
      exact ⟨m2, (by show (if nI 299 ≤ nI 299 then _ else _) = _; rw [if_pos (nI_le (Nat.le_refl 299) (by omega))]), c2, r2⟩
    · rintro m2 ⟨c2, r2⟩
      have h0 : rI m2 130 = rI m1 130 := c2.1 130 (by omega)
      refine ⟨wI m2 130 2 (rI m2 130 2 + nI 1), rfl, (c1.tr (c2.mono (fun b q => .inr q))).wI (.inl rfl), fun j hj => ?_, ?_, fun i hi j hj => ?_⟩
      · rw [rI_ws, upd_n hj, h0, j1 j hj]
      · rw [rI_ws, upd_s, h0, s1, nI_add]
      · rw [rI_wn (by decide), r2]
        show _ = (if i = n1 then f else F1 i) j
        by_cases e : i = n1
        · subst e
          rw [if_pos (by omega), if_pos rfl, show 299 * i + j - 299 * i = j by omega]
        · rw [if_neg (by omega), if_neg e, s2 i (by omega) j hj]
  unfold D149
  by_cases q : n < 5
  · rw [h1, if_neg (show ¬ nI n = nI 5 by rw [nI_eq (by omega) (by omega)]; omega)]
    obtain ⟨m', e, c, j1, s⟩ := half m n F (by omega) chg.rf (fun _ _ => rfl) ⟨h1, h2⟩
    refine ⟨m', e, c, j1, ?_⟩
    unfold svn svF
    simp only [q, if_true]
    exact s
  · have e5 : n = 5 := by omega
    subst e5
    rw [h1, if_pos rfl]
    have k1 := lpx (F := 3000) (s0 := (nI 0, m)) (f := fun (s2 : Int32 × dM) => if (nI 1196) ≤ s2.1 then some (Sum.inr (α := Int32 × dM) s2.2) else (gI s2.2 132 1495 ((nI 299) + s2.1)).bind fun (x4 : Int32) => (sI s2.2 132 1495 s2.1 x4).bind fun (m5 : dM) => some (.inl (s2.1 + (nI 1), m5)))
      (K := fun (v3 : dM) => (fI v3 130 2 ((rI v3 130 2) - (nI 1))).bind fun (m6 : dM) => some m6) (Q := fun m1 => chg (fun b => b = 130 ∨ b = 132) m m1 ∧ (∀ j, j ≠ 2 → rI m1 130 j = rI m 130 j) ∧ SM m1 4 (fun i => F (i + 1)))
      (fun k s => s.1 = nI k ∧ chg (fun b => b = 132) m s.2 ∧ ∀ j, rI s.2 132 j = if j < k then rI m 132 (299 + j) else rI m 132 j) (fun m1 => chg (fun b => b = 132) m m1 ∧ ∀ j, rI m1 132 j = if j < 1196 then rI m 132 (299 + j) else rI m 132 j) 1196 (by omega) ⟨rfl, chg.rf, fun j => by rw [if_neg (by omega)]⟩ ?_ ?_ ?_
    · obtain ⟨m1, e1, c1, j1, s1⟩ := k1
      rw [e1]
      obtain ⟨m', e, c, j2, s⟩ := half m1 4 _ (by omega) c1 j1 s1
      refine ⟨m', e, c, j2, ?_⟩
      unfold svn svF
      simp only [q, if_false]
      exact s
    · rintro k ⟨x, m2⟩ hk ⟨hx, c2, r2⟩
      replace hx : x = nI k := hx
      replace c2 : chg (fun b => b = 132) m m2 := c2
      replace r2 : ∀ j, rI m2 132 j = if j < k then rI m 132 (299 + j) else rI m 132 j := r2
      subst hx
      refine .inl ⟨(nI k + nI 1, wI m2 132 k (rI m 132 (299 + k))), ?_, nI_add k 1, chg.wI c2 rfl, fun j => ?_⟩
      · show (if nI 1196 ≤ nI k then _ else Option.bind (gI m2 132 1495 (nI 299 + nI k)) _) = _
        rw [if_neg (nI_ge hk (by omega)), nI_add, gI_n (by omega) (by omega), r2 (299 + k), if_neg (by omega)]
        show Option.bind (sI m2 132 1495 (nI k) (rI m 132 (299 + k))) _ = _
        rw [sI_n (by omega) (by omega)]
        rfl
      · show rI (wI m2 132 k (rI m 132 (299 + k))) 132 j = _
        rw [rI_ws]
        by_cases e : j = k
        · subst e
          rw [upd_s, if_pos (by omega)]
        · rw [upd_n e, r2 j]
          by_cases q : j < k
          · rw [if_pos q, if_pos (by omega)]
          · rw [if_neg q, if_neg (by omega)]
    · rintro ⟨x, m2⟩ ⟨hx, c2, r2⟩
      replace hx : x = nI 1196 := hx
      subst hx
      exact ⟨m2, (by show (if nI 1196 ≤ nI 1196 then _ else _) = _; rw [if_pos (nI_le (Nat.le_refl 1196) (by omega))]), c2, r2⟩
    · rintro m2 ⟨c2, r2⟩
      have h0 : rI m2 130 = rI m 130 := c2.1 130 (by omega)
      refine ⟨wI m2 130 2 (rI m2 130 2 - nI 1), rfl, (c2.mono (fun b q => .inr q)).wI (.inl rfl), fun j hj => ?_, ?_, fun i hi j hj => ?_⟩
      · rw [rI_ws, upd_n hj, h0]
      · rw [rI_ws, upd_s, h0, h1]
        rfl
      · show _ = F (i + 1) j
        rw [rI_wn (by decide), r2, if_pos (by omega), ← h2 (i + 1) (by omega) j hj, show 299 * (i + 1) + j = 299 + (299 * i + j) by omega]
end SV
