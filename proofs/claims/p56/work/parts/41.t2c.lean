/-! A TURN in the class: deliveries, picking up -/
theorem lpx {σ β γ : Type} {F : Nat} {f : σ → Option (σ ⊕ β)} {s0 : σ} {K : β → Option γ} {Q : γ → Prop} (P : Nat → σ → Prop) (Q1 : β → Prop) (N : Nat) (hF : N < F) (h0 : P 0 s0) (step : ∀ i s, i < N → P i s → (∃ s', f s = some (.inl s') ∧ P (i + 1) s') ∨ (∃ b, f s = some (.inr b) ∧ Q1 b)) (fin : ∀ s, P N s → ∃ b, f s = some (.inr b) ∧ Q1 b) (k : ∀ b, Q1 b → ∃ r, K b = some r ∧ Q r) : ∃ r, (lp F f s0).bind K = some r ∧ Q r := by
  obtain ⟨b, e, h⟩ := lp_inv P Q1 N hF h0 step fin
  obtain ⟨r, e2, h2⟩ := k b h
  exact ⟨r, by rw [e]; exact e2, h2⟩
section T2
variable {m m' : dM} {f g : Nat → Int32} {c : Nat}
theorem spt_dl (V : rvP f) {k p : Nat} (hp : p < 8) (e : p ≠ k) : spt (dl f c (k + 1)) p = spt (dl f c k) p := by
  unfold spt
  rw [dl_s hp, dl_s hp]
  simp only [ite_k e]
  rw [dl_o (k + 1) (118 + 6 * p + 5) (by omega) (fun q _ => by omega), dl_o k (118 + 6 * p + 5) (by omega) (fun q _ => by omega), dl_o (k + 1) (118 + 6 * p + 0) (by omega) (fun q _ => by omega), dl_o k (118 + 6 * p + 0) (by omega) (fun q _ => by omega)]
theorem spt_dk {k : Nat} (hk : k < 8) : spt (dl f c k) k = spt f k := by
  unfold spt
  rw [dl_s hk, if_neg (show ¬ (k < k ∧ dcB f c k = true) from fun z => by omega), dl_o k (118 + 6 * k + 5) (by omega) (fun q _ => by omega), dl_o k (118 + 6 * k + 0) (by omega) (fun q _ => by omega)]
theorem d37 (R : RC m 1 f) (V : rv f) (hc : c < 4) : ∃ r, D37 m (nI c) (f (97 + 5 * c + 0)) = some r ∧ r.1 = gn f c (pN f) ∧ chg (fun b => b = 14) m r.2 ∧ ∀ p, p < 8 → p < pN f → rI r.2 14 p = spt (dl f c (pN f)) p := by
  have h8 := V.p8
  unfold D37
  refine lpx (fun k s => s.1 = gn f c k ∧ s.2.1 = nI k ∧ chg (fun b => b = 14) m s.2.2 ∧ ∀ p, p < 8 → p < pN f → rI s.2.2 14 p = spt (dl f c k) p) (fun r => r.1 = gn f c (pN f) ∧ chg (fun b => b = 14) m r.2 ∧ ∀ p, p < 8 → p < pN f → rI r.2 14 p = spt (dl f c (pN f)) p) (pN f) (by omega) ⟨rfl, rfl, chg.rf, fun p h8 hp => R.sp h8 hp⟩ ?_ ?_ (fun b hb => ⟨_, rfl, hb⟩)
  · rintro k ⟨x, t, m2⟩ hk ⟨hx, ht, c2, r2⟩
    replace hx : x = gn f c k := hx
    replace ht : t = nI k := ht
    replace c2 : chg (fun b => b = 14) m m2 := c2
    replace r2 : ∀ p, p < 8 → p < pN f → rI m2 14 p = spt (dl f c k) p := r2
    subst hx ht
    refine .inl ?_
    have e0 : ∀ A B : Option ((Int32 × Int32 × dM) ⊕ (Int32 × dM)), (if rI m2 10 4 ≤ nI k then A else B) = B := fun A B => by rw [c2.1 10 (by decide), R.pc, V.p0, if_neg (nI_ge hk (by omega))]
    have e1 : gI m2 14 8 (nI k) = some (spt f k) := by rw [gI_n (by omega) (by omega), r2 k (by omega) hk, spt_dk (by omega)]
    have e2 : gI m2 11 8 (nI k) = some (f (118 + 6 * k + 1)) := by rw [gI_n (by omega) (by omega), c2.1 11 (by decide), R.tg (by omega)]
    have hno : ¬ dcB f c k = true → ∃ s', (Option.bind (some (gn f c k, m2)) fun (v4 : Int32 × dM) => some (Sum.inl (β := Int32 × dM) (v4.1, nI k + nI 1, v4.2))) = some (.inl s') ∧ s'.1 = gn f c (k + 1) ∧ s'.2.1 = nI (k + 1) ∧ chg (fun b => b = 14) m s'.2.2 ∧ ∀ p, p < 8 → p < pN f → rI s'.2.2 14 p = spt (dl f c (k + 1)) p := fun q => ⟨_, rfl, by rw [gn_1, if_neg q], nI_add k 1, c2, by rw [dl_1, if_neg q]; exact r2⟩
    show ∃ s', (if rI m2 10 4 ≤ nI k then _ else Option.bind (gI m2 14 8 (nI k)) _) = _ ∧ _
    rw [e0, e1]
    show ∃ s', Option.bind (if spt f k = nI 10 + nI c then Option.bind (gI m2 11 8 (nI k)) _ else _) _ = _ ∧ _
    rw [e2]
    show ∃ s', Option.bind (if spt f k = nI 10 + nI c then (if f (118 + 6 * k + 1) = f (97 + 5 * c + 0) then Option.bind (sI m2 14 8 (nI k) (nI 14 + nI c)) _ else _) else _) _ = _ ∧ _
    by_cases q1 : f (118 + 6 * k + 4) = nI 1 ∧ f (118 + 6 * k + 5) = nI c
    · rw [if_pos ((spt_c V hk hc).mpr q1)]
      by_cases q2 : f (118 + 6 * k + 1) = f (97 + 5 * c + 0)
      · have q : dcB f c k = true := by
          unfold dcB
          rw [decide_eq_true_eq]
          exact ⟨q1.1, q1.2, q2⟩
        rw [if_pos q2, sI_n (by omega) (by omega)]
        show ∃ s', Option.bind (Option.bind (gI (wI m2 14 k (nI 14 + nI c)) 13 8 (nI k)) _) _ = _ ∧ _
        rw [gI_n (by omega) (by omega), rI_wn (by decide), c2.1 13 (by decide), R.vl (by omega)]
        refine ⟨(gn f c k + f (118 + 6 * k + 3), nI k + nI 1, wI m2 14 k (nI 14 + nI c)), rfl, ?_, nI_add k 1, chg.wI c2 rfl, fun p h8 hp => ?_⟩
        · show gn f c k + f (118 + 6 * k + 3) = gn f c (k + 1)
          rw [gn_1, if_pos q]
        · show rI (wI m2 14 k (nI 14 + nI c)) 14 p = _
          rw [rI_ws]
          by_cases e : p = k
          · subst e
            have es : dl f c (p + 1) (118 + 6 * p + 4) = nI 2 := by rw [dl_s h8, if_pos ⟨by omega, q⟩]
            rw [upd_s]
            unfold spt
            rw [es, if_neg (by decide), if_neg (by decide), dl_o (p + 1) (118 + 6 * p + 5) (by omega) (fun q _ => by omega), q1.2]
          · rw [upd_n e, r2 p h8 hp, spt_dl V.2.2.1 h8 e]
      · rw [if_neg q2]
        exact hno (fun z => q2 (by unfold dcB at z; rw [decide_eq_true_eq] at z; exact z.2.2))
    · rw [if_neg (fun z => q1 ((spt_c V hk hc).mp z))]
      exact hno (fun z => q1 (dc_e z))
  · rintro ⟨x, t, m2⟩ ⟨hx, ht, c2, r2⟩
    replace ht : t = nI (pN f) := ht
    replace c2 : chg (fun b => b = 14) m m2 := c2
    subst ht
    refine ⟨(x, m2), ?_, hx, c2, r2⟩
    show (if rI m2 10 4 ≤ nI (pN f) then _ else _) = _
    rw [c2.1 10 (by decide), R.pc, V.p0, if_pos (nI_le (Nat.le_refl _) (by omega))]
theorem d130 (hc : c < 4) : D130 (nI c) = some (nI (c / 2)) := by
  have : c = 0 ∨ c = 1 ∨ c = 2 ∨ c = 3 := by omega
  rcases this with rfl | rfl | rfl | rfl <;> rfl
/-- the points are written -/
theorem RC_dl (R : RC m 1 f) (V : rv f) (hc : c < 4) {m1 : dM} (c1 : chg (fun b => b = 14) m m1) (h : ∀ p, p < 8 → p < pN f → rI m1 14 p = spt (dl f c (pN f)) p) : RC (wI m1 17 (c / 2) (f (170 + c / 2) + gn f c (pN f))) 1 (dl f c (pN f)) := by
  have h8 := V.p8
  have k : ∀ b, b ≠ 14 → b ≠ 17 → rI (wI m1 17 (c / 2) (f (170 + c / 2) + gn f c (pN f))) b = rI m b := fun b q1 q2 => (rI_wn q2).trans (c1.1 b q1)
  have e : ∀ x, x ≠ 170 + c / 2 → (∀ p, p < 8 → x ≠ 118 + 6 * p + 4) → dl f c (pN f) x = f x := fun x q1 q2 => dl_o _ x q1 (fun p hp => q2 p (by omega))
  refine ⟨R.1.cg (fun x q => e x (by omega) (fun p _ => by omega)) (fun b _ _ => k b (by omega) (by omega)), R.2.1.cg (fun x _ q => e x (by omega) (fun p _ => by omega)) (fun b _ _ => k b (by omega) (by omega)), ⟨?_, fun p hp => ?_⟩, R.2.2.2.1.cg V.t61 (fun x q => e x (by omega) (fun p _ => by omega)) (fun b _ _ => ⟨k b (by omega) (by omega), ?_⟩), ⟨fun j hj => ?_, ?_⟩⟩
  · rw [k 10 (by omega) (by omega), e 117 (by omega) (fun p _ => by omega)]
    exact R.pc
  · rw [k 11 (by omega) (by omega), k 12 (by omega) (by omega), k 13 (by omega) (by omega), e (118 + 6 * p + 1) (by omega) (fun p _ => by omega), e (118 + 6 * p + 2) (by omega) (fun p _ => by omega), e (118 + 6 * p + 3) (by omega) (fun p _ => by omega), (dl_rv V hc (pN f) (Nat.le_refl _)).2]
    exact ⟨R.tg hp, R.wg hp, R.vl hp, fun hq => (by rw [rI_wn (by decide)]; exact h p hp hq)⟩
  · exact c1.2.1 b (by omega)
  · show rI (wI m1 17 (c / 2) (f (170 + c / 2) + gn f c (pN f))) 17 j = _
    rw [rI_ws]
    by_cases q : j = c / 2
    · subst q
      rw [upd_s, dl_p _ h8]
    · rw [upd_n q, c1.1 17 (by decide), R.pt hj, e (170 + j) (by omega) (fun p _ => by omega)]
  · show rI _ 1 5 = _ ∧ rI _ 1 6 = _ ∧ rI _ 1 7 = _ ∧ rI _ 1 8 = _ ∧ rI _ 1 9 = _
    rw [k 1 (by omega) (by omega), e 166 (by omega) (fun p _ => by omega), e 167 (by omega) (fun p _ => by omega), e 168 (by omega) (fun p _ => by omega), e 169 (by omega) (fun p _ => by omega), e 172 (by omega) (fun p _ => by omega), e 173 (by omega) (fun p _ => by omega)]
    exact R.2.2.2.2.2
theorem ky_lt (P : rvP g) {a b : Nat} (ha : a < pN g) (hb : b < pN g) : ky g a < ky g b ↔ g (118 + 6 * b + 3) < g (118 + 6 * a + 3) ∨ (g (118 + 6 * a + 3) = g (118 + 6 * b + 3) ∧ (g (118 + 6 * a + 2) < g (118 + 6 * b + 2) ∨ (g (118 + 6 * a + 2) = g (118 + 6 * b + 2) ∧ a < b))) := by
  have h8 := P.2.1
  obtain ⟨-, -, ⟨w, hw, ew⟩, ⟨v, hv, hv0, ev⟩, -⟩ := P.2.2 a ha
  obtain ⟨-, -, ⟨w', hw', ew'⟩, ⟨v', hv', hv0', ev'⟩, -⟩ := P.2.2 b hb
  unfold ky
  rw [ew, ev, ew', ev', nI_clamp (by omega), nI_clamp (by omega), nI_clamp (by omega), nI_clamp (by omega), nI_ltI (by omega) (by omega), nI_ltI (by omega) (by omega), nI_eq (by omega) (by omega), nI_eq (by omega) (by omega)]
  omega
theorem vl_pos (P : rvP g) {a : Nat} (ha : a < pN g) : nI 0 < g (118 + 6 * a + 3) := by
  obtain ⟨-, -, -, ⟨v, hv, hv0, ev⟩, -⟩ := P.2.2 a ha
  rw [ev]
  exact nI_lt hv0 (by omega)
theorem spt_j (V : rv g) {p : Nat} (hp : p < pN g) {j : Int32} (hj : sm j 10) : (spt g p = j) = (g (118 + 6 * p + 4) = nI 0 ∧ g (118 + 6 * p + 0) = j) := by
  obtain ⟨i, hi, rfl⟩ := hj
  obtain ⟨⟨a, h4, e4⟩, -, -, -, -, h5⟩ := V.2.2.1.2.2 p hp
  unfold spt
  by_cases q1 : g (118 + 6 * p + 4) = nI 0
  · rw [if_pos q1]
    simp only [q1, true_and]
  · obtain ⟨b, h6, e6⟩ := h5 q1
    rw [if_neg q1, e6, nI_add, nI_add]
    refine propext ⟨fun z => ?_, fun z => absurd z.1 q1⟩
    split at z
    · rw [nI_eq (by omega) (by omega)] at z
      omega
    · rw [nI_eq (by omega) (by omega)] at z
      omega
def bv (g : Nat → Int32) (k : Nat) : Option Nat → Int32
  | none => nI 0
  | some q => g (118 + 6 * q + k)
theorem d39 (R : RC m 1 g) (V : rv g) {j : Int32} (hj : sm j 10) {L : Option Nat} {mask : Int32} (hm : ∀ p, p < pN g → g (118 + 6 * p + 4) = nI 0 → g (118 + 6 * p + 0) = j → (bt mask p = true ↔ lB g L p = false)) : D39 m j mask = some (oi (nx g j L (pN g))) := by
  have h8 := V.p8
  unfold D39
  refine lpb (oi (nx g j L (pN g))) (fun i => (oi (nx g j L i), bv g 3 (nx g j L i), bv g 2 (nx g j L i), nI i)) (pN g) (by omega) rfl (fun i hi => ?_) ?_ rfl
  · have e0 : ∀ A B : Option ((Int32 × Int32 × Int32 × Int32) ⊕ Int32), (if rI m 10 4 ≤ nI i then A else B) = B := fun A B => by rw [R.pc, V.p0, if_neg (nI_ge hi (by omega))]
    show (if rI m 10 4 ≤ nI i then _ else Option.bind (gI m 14 8 (nI i)) _) = _
    rw [e0, gI_n (by omega) (by omega), R.sp (by omega) hi]
    show Option.bind (if spt g i = j then (if (mask >>> (nI i &&& nI 31)) &&& nI 1 = nI 1 then some (nI 1) else some (nI 0)) else some (nI 1)) _ = _
    have hv4 : ∃ v, (if spt g i = j then (if (mask >>> (nI i &&& nI 31)) &&& nI 1 = nI 1 then some (nI 1) else some (nI 0)) else some (nI 1)) = some v ∧ (v = nI 0 ↔ cdB g j L i = true) := by
      have hs := spt_j V hi hj
      have hb := bit1 (x := mask) (s := i) (by omega)
      unfold cdB
      by_cases q1 : g (118 + 6 * i + 4) = nI 0 ∧ g (118 + 6 * i + 0) = j
      · rw [if_pos (hs.mpr q1), decide_eq_true q1, Bool.true_and]
        have := hm i hi q1.1 q1.2
        by_cases q2 : bt mask i = true
        · rw [if_pos (hb.mpr q2), this.mp q2]
          exact ⟨_, rfl, by simp [n10]⟩
        · rw [if_neg (fun z => q2 (hb.mp z))]
          have q3 : lB g L i = true := by
            cases w : lB g L i with
            | true => rfl
            | false => exact absurd (this.mpr w) q2
          rw [q3]
          exact ⟨_, rfl, by simp⟩
      · rw [if_neg (fun z => q1 (hs.mp z)), decide_eq_false q1, Bool.false_and]
        exact ⟨_, rfl, by simp [n10]⟩
    obtain ⟨v, ev, hv⟩ := hv4
    rw [ev]
    show Option.bind (if v = nI 0 then Option.bind (gI m 13 8 (nI i)) _ else _) _ = _
    rw [nx_1, gI_n (by omega) (by omega), R.vl (by omega), gI_n (by omega) (by omega), R.wg (by omega)]
    show Option.bind (if v = nI 0 then (if bv g 3 (nx g j L i) < g (118 + 6 * i + 3) then some (nI i, g (118 + 6 * i + 3), g (118 + 6 * i + 2)) else (if g (118 + 6 * i + 3) = bv g 3 (nx g j L i) then (if bv g 2 (nx g j L i) ≤ g (118 + 6 * i + 2) then some (oi (nx g j L i), bv g 3 (nx g j L i), bv g 2 (nx g j L i)) else some (nI i, g (118 + 6 * i + 3), g (118 + 6 * i + 2))) else some (oi (nx g j L i), bv g 3 (nx g j L i), bv g 2 (nx g j L i)))) else some (oi (nx g j L i), bv g 3 (nx g j L i), bv g 2 (nx g j L i))) _ = _
    by_cases q : cdB g j L i = true
    · rw [if_pos (hv.mpr q), if_pos q]
      cases w : nx g j L i with
      | none =>
        rw [if_pos (show bv g 3 none < g (118 + 6 * i + 3) from vl_pos V.2.2.1 hi)]
        show some _ = some _
        rw [nI_add]
        rfl
      | some a =>
        obtain ⟨ha, -⟩ := nx_some w
        have kk := ky_lt V.2.2.1 hi (show a < pN g by omega)
        show Option.bind (if g (118 + 6 * a + 3) < g (118 + 6 * i + 3) then _ else (if g (118 + 6 * i + 3) = g (118 + 6 * a + 3) then (if g (118 + 6 * a + 2) ≤ g (118 + 6 * i + 2) then _ else _) else _)) _ = some (Sum.inl (oi (if ky g i < ky g a then some i else some a), bv g 3 (if ky g i < ky g a then some i else some a), bv g 2 (if ky g i < ky g a then some i else some a), nI (i + 1)))
        rw [← nI_add]
        by_cases w1 : g (118 + 6 * a + 3) < g (118 + 6 * i + 3)
        · rw [if_pos w1, if_pos (kk.mpr (.inl w1))]
          rfl
        · rw [if_neg w1]
          by_cases w2 : g (118 + 6 * i + 3) = g (118 + 6 * a + 3)
          · rw [if_pos w2]
            by_cases w3 : g (118 + 6 * a + 2) ≤ g (118 + 6 * i + 2)
            · rw [if_pos w3, if_neg (fun z => by
                rcases kk.mp z with z | ⟨-, z | ⟨-, z⟩⟩
                · exact w1 z
                · exact absurd z (Int32.not_lt.mpr w3)
                · omega)]
              rfl
            · rw [if_neg w3, if_pos (kk.mpr (.inr ⟨w2, .inl (Int32.not_le.mp w3)⟩))]
              rfl
          · rw [if_neg w2, if_neg (fun z => by
              rcases kk.mp z with z | ⟨z, -⟩
              · exact w1 z
              · exact w2 z)]
            rfl
    · rw [if_neg (fun z => q (hv.mp z)), if_neg q, ← nI_add]
      rfl
  · show (if rI m 10 4 ≤ nI (pN g) then _ else _) = _
    rw [R.pc, V.p0, if_pos (nI_le (Nat.le_refl _) (by omega))]
theorem RC_car (R : RC m 1 g) (V : rv g) {p : Nat} (hp : p < pN g) : RC (wI m 14 p (nI 10 + nI c)) 1 (car g p c) := by
  have h8 := V.p8
  have k : ∀ b, b ≠ 14 → rI (wI m 14 p (nI 10 + nI c)) b = rI m b := fun b q1 => rI_wn q1
  have e : ∀ x, x ≠ 118 + 6 * p + 4 → x ≠ 118 + 6 * p + 5 → car g p c x = g x := fun x q1 q2 => car_o q1 q2
  refine ⟨R.1.cg (fun x q => e x (by omega) (by omega)) (fun b _ _ => k b (by omega)), R.2.1.cg (fun x _ q => e x (by omega) (by omega)) (fun b _ _ => k b (by omega)), ⟨?_, fun q hq => ?_⟩, R.2.2.2.1.cg V.t61 (fun x q => e x (by omega) (by omega)) (fun b _ _ => ⟨k b (by omega), rfl⟩), R.2.2.2.2.cg (fun x _ q => e x (by omega) (by omega)) (fun b q => k b (by omega))⟩
  · rw [k 10 (by omega), e 117 (by omega) (by omega)]
    exact R.pc
  · rw [k 11 (by omega), k 12 (by omega), k 13 (by omega), e (118 + 6 * q + 1) (by omega) (by omega), e (118 + 6 * q + 2) (by omega) (by omega), e (118 + 6 * q + 3) (by omega) (by omega), pN.cg (e 117 (by omega) (by omega))]
    refine ⟨R.tg hq, R.wg hq, R.vl hq, fun hn => ?_⟩
    show rI (wI m 14 p (nI 10 + nI c)) 14 q = _
    rw [rI_ws]
    unfold spt
    by_cases w : q = p
    · subst w
      rw [upd_s, car_4, car_5, if_neg (by decide), if_pos rfl]
    · rw [upd_n w, R.sp hq hn, e (118 + 6 * q + 4) (by omega) (by omega), e (118 + 6 * q + 5) (by omega) (by omega), e (118 + 6 * q + 0) (by omega) (by omega)]
      rfl
theorem d38 (R : RC m 1 f) (V : rv f) (hc : c < 4) : ∃ m', D38 m (nI c) (f (97 + 5 * c + 0)) (mx f c) = some m' ∧ chg (fun b => b = 14) m m' ∧ RC m' 1 (pkS f c (pN f)).1 := by
  have h8 := V.p8
  have hat : sm (f (97 + 5 * c + 0)) 10 := (V.2.1.1 c hc).1
  unfold D38
  rw [d34 R V hc]
  show ∃ m', lp _ _ _ = some m' ∧ _
  refine lp_inv (fun k s => s.1 = ld (pkS f c k).1 (nI c) (pN f) ∧ s.2.2.1 = nI k ∧ chg (fun b => b = 14) m s.2.2.2 ∧ RC s.2.2.2 1 (pkS f c k).1 ∧ ∀ p, p < pN f → (pkS f c k).1 (118 + 6 * p + 4) = nI 0 → (pkS f c k).1 (118 + 6 * p + 0) = f (97 + 5 * c + 0) → (bt s.2.1 p = true ↔ lB (pkS f c k).1 (pkS f c k).2 p = false)) (fun m' => chg (fun b => b = 14) m m' ∧ RC m' 1 (pkS f c (pN f)).1) (pN f) (by omega) ⟨rfl, rfl, chg.rf, R, fun p _ _ _ => ?_⟩ ?_ ?_
  · show (bt (nI 0) p = true ↔ lB f none p = false)
    rw [show nI 0 = 0 from rfl, b_0]
    unfold lB
    simp
  · rintro k ⟨x, mask, t, m2⟩ hk ⟨hx, ht, c2, R2, hm⟩
    have V2 := pkS_rv V hc k
    have hpn := (pkS_P V.2.2.1 hc k).2
    replace hx : x = ld (pkS f c k).1 (nI c) (pN f) := hx
    replace ht : t = nI k := ht
    replace c2 : chg (fun b => b = 14) m m2 := c2
    replace R2 : RC m2 1 (pkS f c k).1 := R2
    replace hm : ∀ p, p < pN f → (pkS f c k).1 (118 + 6 * p + 4) = nI 0 → (pkS f c k).1 (118 + 6 * p + 0) = f (97 + 5 * c + 0) → (bt mask p = true ↔ lB (pkS f c k).1 (pkS f c k).2 p = false) := hm
    subst hx ht
    have e0 : ∀ A B : Option ((Int32 × Int32 × Int32 × dM) ⊕ dM), (if rI m2 10 4 ≤ nI k then A else B) = B := fun A B => by rw [c2.1 10 (by decide), R.pc, V.p0, if_neg (nI_ge hk (by omega))]
    have e1 : D39 m2 (f (97 + 5 * c + 0)) mask = some (oi (pkN f c (pkS f c k))) := by
      have := d39 R2 V2 hat (L := (pkS f c k).2) (mask := mask) (by rw [hpn]; exact hm)
      rw [hpn] at this
      exact this
    show (∃ s', (if rI m2 10 4 ≤ nI k then _ else Option.bind (D39 m2 (f (97 + 5 * c + 0)) mask) _) = _ ∧ _) ∨ (∃ b, (if rI m2 10 4 ≤ nI k then _ else Option.bind (D39 m2 (f (97 + 5 * c + 0)) mask) _) = _ ∧ _)
    rw [e0, e1]
    show (∃ s', Option.bind (D29 m2 (oi (pkN f c (pkS f c k)))) _ = _ ∧ _) ∨ (∃ b, Option.bind (D29 m2 (oi (pkN f c (pkS f c k)))) _ = _ ∧ _)
    cases q : pkN f c (pkS f c k) with
    | none =>
      rw [show oi none = (-1 : Int32) from rfl, d29b R2 V2 bad_m1]
      refine .inr ⟨m2, rfl, c2, ?_⟩
      rw [← pk_fin (by omega) q]
      exact R2
    | some p =>
      obtain ⟨h1, h2, h3, h4, h5⟩ := pkN_p q
      have kk := ky_pkS (f := f) (c := c) k
      rw [show oi (some p) = nI p from rfl, d29 R2 V2 (by rw [hpn]; exact h1)]
      refine .inl ?_
      show ∃ s', Option.bind (gI m2 12 8 (nI p)) _ = _ ∧ _
      rw [gI_n (by omega) (by omega), R2.wg (by omega)]
      show ∃ s', Option.bind (if mx f c < ld (pkS f c k).1 (nI c) (pN f) + (pkS f c k).1 (118 + 6 * p + 2) then _ else Option.bind (sI m2 14 8 (nI p) (nI 10 + nI c)) _) _ = _ ∧ _
      have hS : pkS f c (k + 1) = (pk1 f (pkS f c k).1 c p, some p) := by rw [pkS_1, q]
      have hmask : ∀ a, a < pN f → (pkS f c (k + 1)).1 (118 + 6 * a + 4) = nI 0 → (pkS f c (k + 1)).1 (118 + 6 * a + 0) = f (97 + 5 * c + 0) → (bt (mask ||| (nI 1 <<< (nI p &&& nI 31))) a = true ↔ lB (pkS f c (k + 1)).1 (pkS f c (k + 1)).2 a = false) := by
        intro a ha z1 z2
        have k2 := ky_pkS (f := f) (c := c) (k + 1)
        have w1 : (pkS f c k).1 (118 + 6 * a + 4) = nI 0 := by
          by_cases e : a = p
          · rw [e]; exact h2
          · rw [hS] at z1
            replace z1 : pk1 f (pkS f c k).1 c p (118 + 6 * a + 4) = nI 0 := z1
            rwa [pk1_o (by omega) (by omega)] at z1
        have w2 : (pkS f c k).1 (118 + 6 * a + 0) = f (97 + 5 * c + 0) := by
          rw [hS] at z2
          replace z2 : pk1 f (pkS f c k).1 c p (118 + 6 * a + 0) = f (97 + 5 * c + 0) := z2
          rwa [pk1_o (by omega) (by omega)] at z2
        have hk2 := hm a ha w1 w2
        have hl : lB (pkS f c (k + 1)).1 (pkS f c (k + 1)).2 a = decide (ky f p < ky f a) := by
          rw [hS]
          show decide (ky (pk1 f (pkS f c k).1 c p) p < ky (pk1 f (pkS f c k).1 c p) a) = _
          rw [ky_pk1, kk]
        rw [hl, b_or, Bool.or_eq_true, mk.one (show p < 10 by omega) a (by omega), decide_eq_false_iff_not]
        constructor
        · rintro (w | ⟨-, rfl⟩)
          · have w3 := hk2.mp w
            intro w4
            unfold lB at w3 h4
            cases w5 : (pkS f c k).2 with
            | none =>
              rw [w5] at w3
              cases w3
            | some b =>
              rw [w5] at w3 h4
              replace w3 : decide (ky (pkS f c k).1 b < ky (pkS f c k).1 a) = false := w3
              replace h4 : decide (ky (pkS f c k).1 b < ky (pkS f c k).1 p) = true := h4
              rw [kk, decide_eq_false_iff_not] at w3
              rw [kk, decide_eq_true_eq] at h4
              omega
          · exact Nat.lt_irrefl _
        · intro w
          by_cases w3 : bt mask a = true
          · exact .inl w3
          · refine .inr ⟨by omega, ?_⟩
            have w4 : lB (pkS f c k).1 (pkS f c k).2 a = true := by
              cases w5 : lB (pkS f c k).1 (pkS f c k).2 a with
              | true => rfl
              | false => exact absurd (hk2.mpr w5) w3
            have w6 := h5 a ha (by
              unfold cdB
              rw [decide_eq_true ⟨w1, w2⟩, w4]
              rfl)
            rw [kk] at w6
            have hwt : ∀ i, i < pN f → (f (118 + 6 * i + 2)).toNatClampNeg < 10 := fun i hi => by
              have := ((V.2.2.1.2.2 i hi).2.2.1.tn (by omega)).2
              omega
            exact ky_inj (f := f) (by omega) (by omega) (hwt a ha) (hwt p h1) (show ky f a = ky f p by omega)
      by_cases w : mx f c < ld (pkS f c k).1 (nI c) (pN f) + (pkS f c k).1 (118 + 6 * p + 2)
      · have hp1 : pk1 f (pkS f c k).1 c p = (pkS f c k).1 := by
          unfold pk1
          rw [if_neg (Int32.not_le.mpr w)]
        rw [if_pos w]
        refine ⟨(ld (pkS f c k).1 (nI c) (pN f), mask ||| (nI 1 <<< (nI p &&& nI 31)), nI k + nI 1, m2), rfl, ?_, nI_add k 1, c2, ?_, hmask⟩
        · show _ = ld (pkS f c (k + 1)).1 (nI c) (pN f)
          rw [hS, hp1]
        · show RC m2 1 (pkS f c (k + 1)).1
          rw [hS, hp1]
          exact R2
      · have hp1 : pk1 f (pkS f c k).1 c p = car (pkS f c k).1 p c := by
          unfold pk1
          rw [if_pos (Int32.not_lt.mp w)]
        rw [if_neg w, sI_n (by omega) (by omega)]
        show ∃ s', Option.bind (Option.bind (gI (wI m2 14 p (nI 10 + nI c)) 12 8 (nI p)) _) _ = _ ∧ _
        rw [gI_n (by omega) (by omega), rI_wn (by decide), R2.wg (by omega)]
        refine ⟨(ld (pkS f c k).1 (nI c) (pN f) + (pkS f c k).1 (118 + 6 * p + 2), mask ||| (nI 1 <<< (nI p &&& nI 31)), nI k + nI 1, wI m2 14 p (nI 10 + nI c)), rfl, ?_, nI_add k 1, chg.wI c2 rfl, ?_, hmask⟩
        · show _ = ld (pkS f c (k + 1)).1 (nI c) (pN f)
          rw [hS]
          show _ = ld (pk1 f (pkS f c k).1 c p) (nI c) (pN f)
          rw [hp1, ld_car h2, if_pos h1]
        · show RC (wI m2 14 p (nI 10 + nI c)) 1 (pkS f c (k + 1)).1
          rw [hS]
          show RC (wI m2 14 p (nI 10 + nI c)) 1 (pk1 f (pkS f c k).1 c p)
          rw [hp1]
          exact RC_car R2 V2 (by rw [hpn]; exact h1)
  · rintro ⟨x, mask, t, m2⟩ ⟨hx, ht, c2, R2, hm⟩
    replace ht : t = nI (pN f) := ht
    replace c2 : chg (fun b => b = 14) m m2 := c2
    subst ht
    refine ⟨m2, ?_, c2, R2⟩
    show (if rI m2 10 4 ≤ nI (pN f) then _ else _) = _
    rw [c2.1 10 (by decide), R.pc, V.p0, if_pos (nI_le (Nat.le_refl _) (by omega))]
/-- what one courier does behind the moves -/
theorem t2s (R : RC m 1 f) (V : rv f) (hc : c < 4) : ∃ m', ((D130 (nI c)).bind fun (x15 : Int32) => (gI m 17 2 x15).bind fun (x16 : Int32) => (gI m 6 4 (nI c)).bind fun (x17 : Int32) => (D37 m (nI c) x17).bind fun (r18 : Int32 × dM) => (sI r18.2 17 2 x15 (x16 + r18.1)).bind fun (m19 : dM) => (gI m19 6 4 (nI c)).bind fun (x20 : Int32) => (D45 m19 (nI c)).bind fun (x21 : Int32) => D38 m19 (nI c) x20 x21) = some m' ∧ chg (fun b => b = 14 ∨ b = 17) m m' ∧ RC m' 1 (P2 f c) := by
  have hc2 : c / 2 < 2 := by omega
  rw [d130 hc]
  show ∃ m', Option.bind (gI m 17 2 (nI (c / 2))) _ = _ ∧ _
  rw [gI_n hc2 (by omega), R.pt hc2]
  show ∃ m', Option.bind (gI m 6 4 (nI c)) _ = _ ∧ _
  rw [gI_n hc (by omega), R.at hc]
  show ∃ m', Option.bind (D37 m (nI c) (f (97 + 5 * c + 0))) _ = _ ∧ _
  obtain ⟨⟨x, m1⟩, e1, hx, c1, h1⟩ := d37 R V hc
  replace hx : x = gn f c (pN f) := hx
  subst hx
  rw [e1]
  show ∃ m', Option.bind (sI m1 17 2 (nI (c / 2)) (f (170 + c / 2) + gn f c (pN f))) _ = _ ∧ _
  rw [sI_n hc2 (by omega)]
  have R2 := RC_dl R V hc c1 h1
  obtain ⟨V2, p2⟩ := dl_rv V hc (pN f) (Nat.le_refl _)
  show ∃ m', Option.bind (gI (wI m1 17 (c / 2) (f (170 + c / 2) + gn f c (pN f))) 6 4 (nI c)) _ = _ ∧ _
  rw [gI_n hc (by omega), R2.at hc]
  show ∃ m', Option.bind (D45 (wI m1 17 (c / 2) (f (170 + c / 2) + gn f c (pN f))) (nI c)) _ = _ ∧ _
  rw [d45 R2 V2 hc]
  obtain ⟨m3, e3, c3, R3⟩ := d38 R2 V2 hc
  exact ⟨m3, e3, ((c1.mono (fun b e => .inl e)).wI (.inr rfl)).tr (c3.mono (fun b e => .inl e)), R3⟩
end T2
