/-! WHAT THE LAW'S EVENTS KEEP: loads that fit, weights, the position of now is noted -/
/-- loads fit, parcels weigh, the capacity is small -/
def E3 (f : Nat → Int32) : Prop := (∀ c, c < 4 → ld f (nI c) (pN f) ≤ mx f c) ∧ (∀ p, p < pN f → nI 0 < f (118 + 6 * p + 2)) ∧ ∃ k, k ≤ 1000 ∧ f 166 = nI k
/-- the position of now is noted -/
def Nd (f : Nat → Int32) : Prop := ∃ i, i < tN f ∧ f (175 + 2 * i) = nI (f1 f) ∧ f (175 + 2 * i + 1) = nI (f2 f)
def EE (f : Nat → Int32) : Prop := E3 f ∧ Nd f
section EV
variable {f g : Nat → Int32}
theorem ld_cg (h : ∀ x, 117 ≤ x → x < 166 → g x = f x) (c : Int32) : ∀ n, n ≤ 8 → ld g c n = ld f c n := by
  intro n
  induction n with
  | zero => intro _; rfl
  | succ n ih =>
    intro hn
    show ld g c n + (if g (118 + 6 * n + 4) = nI 1 ∧ g (118 + 6 * n + 5) = c then g (118 + 6 * n + 2) else nI 0) = ld f c n + (if f (118 + 6 * n + 4) = nI 1 ∧ f (118 + 6 * n + 5) = c then f (118 + 6 * n + 2) else nI 0)
    rw [ih (by omega), h (118 + 6 * n + 4) (by omega) (by omega), h (118 + 6 * n + 5) (by omega) (by omega), h (118 + 6 * n + 2) (by omega) (by omega)]
theorem f1_cg (ha : ∀ c, c < 4 → g (97 + 5 * c + 0) = f (97 + 5 * c + 0)) (h : ∀ x, 117 ≤ x → x < 166 → g x = f x) : f1 g = f1 f := by
  have e : pa (aV g) 4 = pa (aV f) 4 := pa_eq 4 fun i hi => by
    unfold aV
    rw [ha i hi]
  unfold f1
  rw [e]
  exact pb_eq 4 fun i hi => qV.cg (by omega) h
theorem E3.cg (E : E3 f) (h8 : pN f ≤ 8) (hv : ∀ c, c < 4 → g (97 + 5 * c + 1) = f (97 + 5 * c + 1)) (h : ∀ x, 117 ≤ x → x < 167 → g x = f x) : E3 g := by
  obtain ⟨e1, e2, e3⟩ := E
  have hp : pN g = pN f := pN.cg (h 117 (by omega) (by omega))
  refine ⟨fun c hc => ?_, fun p hp' => ?_, ?_⟩
  · rw [hp, ld_cg (fun x q1 q2 => h x q1 (by omega)) (nI c) (pN f) h8]
    unfold mx
    rw [hv c hc, h 166 (by omega) (by omega)]
    exact e1 c hc
  · rw [hp] at hp'
    rw [h (118 + 6 * p + 2) (by omega) (by omega)]
    exact e2 p hp'
  · rw [h 166 (by omega) (by omega)]
    exact e3
theorem Nd.cg (E : Nd f) (h61 : tN f ≤ 61) (ha : ∀ c, c < 4 → g (97 + 5 * c + 0) = f (97 + 5 * c + 0)) (h : ∀ x, 117 ≤ x → x < 166 → g x = f x) (hn : ∀ x, 174 ≤ x → x < 299 → g x = f x) : Nd g := by
  obtain ⟨i, hi, e1, e2⟩ := E
  refine ⟨i, ?_, ?_, ?_⟩
  · rw [tN.cg (hn 174 (by omega) (by omega))]
    exact hi
  · rw [hn (175 + 2 * i) (by omega) (by omega), f1_cg ha h]
    exact e1
  · rw [hn (175 + 2 * i + 1) (by omega) (by omega), f2.cg h]
    exact e2
theorem EE.cg (E : EE f) (V : rv f) (h : ∀ x, 97 ≤ x → x < 299 → x ≠ 167 → (∀ c, c < 4 → x ≠ 97 + 5 * c + 2) → g x = f x) : EE g :=
  ⟨E.1.cg V.p8 (fun c hc => h _ (by omega) (by omega) (by omega) (fun d hd => by omega)) (fun x q1 q2 => h x (by omega) (by omega) (by omega) (fun d hd => by omega)), E.2.cg V.t61 (fun c hc => h _ (by omega) (by omega) (by omega) (fun d hd => by omega)) (fun x q1 q2 => h x (by omega) (by omega) (by omega) (fun d hd => by omega)) (fun x q1 q2 => h x (by omega) q2 (by omega) (fun d hd => by omega))⟩
/-- a note of now -/
theorem EE_nt (E : E3 g) (h8 : pN g ≤ 8) {t : Nat} (h60 : t ≤ 60) : EE (nt g t) := by
  have h : ∀ x, 117 ≤ x → x < 167 → nt g t x = g x := fun x q1 q2 => nt_o (by omega) (by omega) (by omega)
  have ha : ∀ c, c < 4 → nt g t (97 + 5 * c + 0) = g (97 + 5 * c + 0) := fun c hc => nt_o (by omega) (by omega) (by omega)
  refine ⟨E.cg h8 (fun c hc => nt_o (by omega) (by omega) (by omega)) h, t, ?_, ?_, ?_⟩
  · rw [tN_nt h60]
    omega
  · rw [f1_cg ha (fun x q1 q2 => h x q1 (by omega))]
    unfold nt
    rw [upd_n (by omega), upd_n (by omega), upd_s]
  · rw [f2.cg (fun x q1 q2 => h x q1 (by omega))]
    unfold nt
    rw [upd_n (by omega), upd_s]
/-- one delivers: loads do not grow -/
theorem ld_mono (P : rvP f) (c : Int32) (h2 : ∀ p, p < 8 → g (118 + 6 * p + 2) = f (118 + 6 * p + 2)) (h5 : ∀ p, p < 8 → g (118 + 6 * p + 5) = f (118 + 6 * p + 5)) (h4 : ∀ p, p < 8 → g (118 + 6 * p + 4) = nI 1 → f (118 + 6 * p + 4) = nI 1) : ∀ n, n ≤ pN f → ∃ a b, a ≤ b ∧ b ≤ 5 * n ∧ ld g c n = nI a ∧ ld f c n = nI b := by
  have h8 := P.2.1
  intro n
  induction n with
  | zero => exact fun _ => ⟨0, 0, Nat.le_refl _, Nat.le_refl _, rfl, rfl⟩
  | succ n ih =>
    intro hn
    obtain ⟨a, b, hab, hb, ea, eb⟩ := ih (by omega)
    obtain ⟨u, hu, eu⟩ := (P.2.2 n (by omega)).2.2.1
    show ∃ a b, a ≤ b ∧ b ≤ 5 * (n + 1) ∧ ld g c n + (if g (118 + 6 * n + 4) = nI 1 ∧ g (118 + 6 * n + 5) = c then g (118 + 6 * n + 2) else nI 0) = nI a ∧ ld f c n + (if f (118 + 6 * n + 4) = nI 1 ∧ f (118 + 6 * n + 5) = c then f (118 + 6 * n + 2) else nI 0) = nI b
    rw [ea, eb, h2 n (by omega), h5 n (by omega), eu]
    by_cases q : f (118 + 6 * n + 4) = nI 1 ∧ f (118 + 6 * n + 5) = c
    · rw [if_pos q, nI_add]
      by_cases w : g (118 + 6 * n + 4) = nI 1 ∧ f (118 + 6 * n + 5) = c
      · rw [if_pos w, nI_add]
        exact ⟨a + u, b + u, by omega, by omega, rfl, rfl⟩
      · rw [if_neg w, nI_add]
        exact ⟨a + 0, b + u, by omega, by omega, rfl, rfl⟩
    · rw [if_neg q, if_neg (fun w => q ⟨h4 n (by omega) w.1, w.2⟩), nI_add, nI_add]
      exact ⟨a + 0, b + 0, by omega, by omega, rfl, rfl⟩
theorem E3_dl (E : E3 f) (P : rvP f) {c n : Nat} (hc : c < 4) (hn : n ≤ pN f) : E3 (dl f c n) := by
  obtain ⟨e1, e2, e3⟩ := E
  have h8 := P.2.1
  have hp := (dl_P P hc hn).2
  have o : ∀ x, x ≠ 170 + c / 2 → (∀ p, p < n → x ≠ 118 + 6 * p + 4) → dl f c n x = f x := dl_o n
  refine ⟨fun b hb => ?_, fun p hp' => ?_, ?_⟩
  · obtain ⟨x, y, hxy, hy, ex, ey⟩ := ld_mono (g := dl f c n) P (nI b) (fun p hp => o _ (by omega) (fun q _ => by omega)) (fun p hp => o _ (by omega) (fun q _ => by omega)) (fun p hp z => by
      rw [dl_s hp] at z
      by_cases q : p < n ∧ dcB f c p = true
      · rw [if_pos q] at z
        exact absurd z (by decide)
      · rw [if_neg q] at z
        exact z) (pN f) (Nat.le_refl _)
    have hm : mx (dl f c n) b = mx f b := by
      unfold mx
      rw [o (97 + 5 * b + 1) (by omega) (fun q _ => by omega), o 166 (by omega) (fun q _ => by omega)]
    rw [hp, hm, ex]
    have := e1 b hb
    rw [ey] at this
    exact Int32.le_trans (nI_le hxy (by omega)) this
  · rw [hp] at hp'
    rw [o (118 + 6 * p + 2) (by omega) (fun q _ => by omega)]
    exact e2 p hp'
  · rw [o 166 (by omega) (fun q _ => by omega)]
    exact e3
theorem ld_car2 {c b p : Nat} (hc : c < 4) (hb : b < 4) (hn : b ≠ c) (h0 : g (118 + 6 * p + 4) = nI 0) : ∀ n, ld (car g p c) (nI b) n = ld g (nI b) n := by
  intro n
  induction n with
  | zero => rfl
  | succ n ih =>
    show ld (car g p c) (nI b) n + (if car g p c (118 + 6 * n + 4) = nI 1 ∧ car g p c (118 + 6 * n + 5) = nI b then car g p c (118 + 6 * n + 2) else nI 0) = ld g (nI b) n + (if g (118 + 6 * n + 4) = nI 1 ∧ g (118 + 6 * n + 5) = nI b then g (118 + 6 * n + 2) else nI 0)
    rw [ih, car_o (show 118 + 6 * n + 2 ≠ 118 + 6 * p + 4 by omega) (show 118 + 6 * n + 2 ≠ 118 + 6 * p + 5 by omega)]
    by_cases e : p = n
    · subst e
      rw [car_4, car_5, h0, if_neg (show ¬ (nI 1 = nI 1 ∧ nI c = nI b) from fun z => hn ((nI_eq (by omega) (by omega)).mp z.2).symm), if_neg (show ¬ (nI 0 = nI 1 ∧ g (118 + 6 * p + 5) = nI b) from fun z => absurd z.1 (by decide))]
    · rw [car_o (show 118 + 6 * n + 4 ≠ 118 + 6 * p + 4 by omega) (show 118 + 6 * n + 4 ≠ 118 + 6 * p + 5 by omega), car_o (show 118 + 6 * n + 5 ≠ 118 + 6 * p + 4 by omega) (show 118 + 6 * n + 5 ≠ 118 + 6 * p + 5 by omega)]
theorem ld_pk (E : E3 f) {c : Nat} (hc : c < 4) : ∀ n b, b < 4 → ld (pkS f c n).1 (nI b) (pN f) ≤ mx f b := by
  intro n
  induction n with
  | zero => exact E.1
  | succ n ih =>
    intro b hb
    rw [pkS_1]
    cases q : pkN f c (pkS f c n) with
    | none => exact ih b hb
    | some p =>
      obtain ⟨hp, h0, -⟩ := pkN_p q
      show ld (pk1 f (pkS f c n).1 c p) (nI b) (pN f) ≤ mx f b
      unfold pk1
      by_cases w : ld (pkS f c n).1 (nI c) (pN f) + (pkS f c n).1 (118 + 6 * p + 2) ≤ mx f c
      · rw [if_pos w]
        by_cases e : b = c
        · subst e
          rw [ld_car h0, if_pos hp]
          exact w
        · rw [ld_car2 hc hb e h0]
          exact ih b hb
      · rw [if_neg w]
        exact ih b hb
theorem E3_pk (E : E3 f) (P : rvP f) {c : Nat} (hc : c < 4) (n : Nat) : E3 (pkS f c n).1 := by
  have h8 := P.2.1
  have hp := (pkS_P P hc n).2
  refine ⟨fun b hb => ?_, fun p hp' => ?_, ?_⟩
  · rw [hp, mx_pk h8 hb]
    exact ld_pk E hc n b hb
  · rw [hp] at hp'
    rw [pkS_o h8 (fun q _ => by omega)]
    exact E.2.1 p hp'
  · rw [pkS_o h8 (fun q _ => by omega)]
    exact E.2.2
theorem E3_P2 (E : E3 f) (P : rvP f) {c : Nat} (hc : c < 4) : E3 (P2 f c) :=
  E3_pk (E3_dl E P hc (Nat.le_refl _)) (dl_P P hc (Nat.le_refl _)).1 hc _
theorem E3_P8 (E : E3 f) (V : rv f) : ∀ k, k ≤ 4 → E3 (P8 f k)
  | 0, _ => E
  | k + 1, h => E3_P2 (E3_P8 E V k (by omega)) (P8_rv V k (by omega)).2.2.1 (by omega)
/-- a turn keeps it -/
theorem EE_TF (E : EE f) (V : rv f) (h : ov f = 0) : EE (TF f) := by
  have VT := T8_rv V h
  have V1 := mv_rv V
  have E1 : E3 (clr (mvF f)) := E.1.cg V.p8 (fun c hc => by
    rw [cm_at hc (by omega) (by omega), if_neg (fun z => absurd z.1 (by omega)), if_neg (fun z => absurd z.1 (by omega)), if_neg (by omega)]) (fun x q1 q2 => cm_o (by omega) (by omega))
  have E2 : E3 (P8 (clr (mvF f)) 4) := E3_P8 E1 V1 4 (Nat.le_refl 4)
  have E3' : E3 (T8 f) := E2.cg (P8_rv V1 4 (Nat.le_refl 4)).p8 (fun c hc => upd_n (by omega)) (fun x q1 q2 => upd_n (by omega))
  obtain ⟨T, hT1, hT2, hT3⟩ := ov_t V h
  exact EE_nt E3' VT.1.p8 (by omega)
theorem EE_as (E : EE f) (V : rv f) (h : sN f < 24) {p q v : Int32} : EE (asF f p q v) := E.cg V (fun x q1 _ _ _ => as_o (by omega) (by omega))
theorem EE_tg (E : EE f) (V : rv f) {t : Nat} (h : t < 24) : EE (tgF f t) := E.cg V (fun x q1 _ _ q4 => (tgF_o q4).trans (tgG_o (by omega)))
theorem EE_or (E : EE f) (V : rv f) {c : Nat} (hc : c < 4) {v : Int32} : EE (upd f (97 + 5 * c + 2) v) := E.cg V (fun x _ _ _ q4 => upd_n (q4 c hc))
theorem EE_lm (E : EE f) (V : rv f) {v : Int32} : EE (upd f 167 v) := E.cg V (fun x _ _ q3 _ => upd_n q3)
theorem EE_pl (E : EE f) (V : rv f) {c j : Nat} (hc : c < 4) : EE (nt (plF f c j) 0) := by
  have e : ∀ x, x ≠ 97 + 5 * c + 0 → x ≠ 97 + 5 * c + 2 → plF f c j x = f x := fun x q1 q2 => (upd_n q2).trans (upd_n q1)
  exact EE_nt (E.1.cg V.p8 (fun b hb => e _ (by omega) (by omega)) (fun x q1 q2 => e x (by omega) (by omega))) (by rw [pN.cg (e 117 (by omega) (by omega))]; exact V.p8) (by omega)
theorem EE_va (E : EE f) (V : rv f) {c : Nat} (hc : c < 4) (h0 : f (97 + 5 * c + 1) = nI 0) : EE (vaF f c) := by
  have e : ∀ x, x ≠ 97 + 5 * c + 1 → x ≠ 97 + 5 * c + 2 → vaF f c x = f x := fun x q1 q2 => (upd_n q2).trans (upd_n q1)
  have hp : pN (vaF f c) = pN f := pN.cg (e 117 (by omega) (by omega))
  obtain ⟨⟨e1, e2, k, hk, ek⟩, E2⟩ := E
  refine ⟨⟨fun b hb => ?_, fun p hp' => ?_, k, hk, (e 166 (by omega) (by omega)).trans ek⟩, E2.cg V.t61 (fun b hb => e _ (by omega) (by omega)) (fun x q1 q2 => e x (by omega) (by omega)) (fun x q1 q2 => e x (by omega) (by omega))⟩
  · rw [hp, ld_cg (fun x q1 q2 => e x (by omega) (by omega)) (nI b) (pN f) V.p8]
    have := e1 b hb
    unfold mx at this ⊢
    rw [e 166 (by omega) (by omega), ek]
    rw [ek] at this
    by_cases w : b = c
    · subst w
      rw [h0, if_neg (by decide)] at this
      have hle : nI k ≤ nI 2 * nI k := by rw [nI_mul]; exact nI_le (by omega) (by omega)
      split
      · exact Int32.le_trans this hle
      · exact this
    · rw [e (97 + 5 * b + 1) (by omega) (by omega)]
      exact this
  · rw [hp] at hp'
    rw [e (118 + 6 * p + 2) (by omega) (by omega)]
    exact e2 p hp'
theorem EE_ad (E : EE f) (V : rv f) (h : pN f < 8) {a b v : Int32} {w : Nat} (hw : 1 ≤ w) (hw5 : w ≤ 5) : EE (nt (adF f a b (nI w) v) 0) := by
  have o : ∀ x, x ≠ 117 → ¬ (118 + 6 * pN f ≤ x ∧ x < 118 + 6 * pN f + 6) → adF f a b (nI w) v x = f x := fun x q1 q2 => ad_o q1 q2
  have hp := pN_ad (a := a) (b := b) (w := nI w) (v := v) h
  have hl : ∀ (c : Int32) n, n ≤ pN f → ld (adF f a b (nI w) v) c n = ld f c n := by
    intro c n
    induction n with
    | zero => intro _; rfl
    | succ n ih =>
      intro hn
      show ld (adF f a b (nI w) v) c n + (if adF f a b (nI w) v (118 + 6 * n + 4) = nI 1 ∧ adF f a b (nI w) v (118 + 6 * n + 5) = c then adF f a b (nI w) v (118 + 6 * n + 2) else nI 0) = ld f c n + (if f (118 + 6 * n + 4) = nI 1 ∧ f (118 + 6 * n + 5) = c then f (118 + 6 * n + 2) else nI 0)
      rw [ih (by omega), o (118 + 6 * n + 4) (by omega) (by omega), o (118 + 6 * n + 5) (by omega) (by omega), o (118 + 6 * n + 2) (by omega) (by omega)]
  refine EE_nt ⟨fun c hc => ?_, fun p hp' => ?_, ?_⟩ (by omega) (by omega)
  · rw [hp]
    show ld (adF f a b (nI w) v) (nI c) (pN f) + (if adF f a b (nI w) v (118 + 6 * pN f + 4) = nI 1 ∧ adF f a b (nI w) v (118 + 6 * pN f + 5) = nI c then adF f a b (nI w) v (118 + 6 * pN f + 2) else nI 0) ≤ _
    rw [ad_4, if_neg (show ¬ (nI 0 = nI 1 ∧ adF f a b (nI w) v (118 + 6 * pN f + 5) = nI c) from fun z => absurd z.1 (by decide)), show ∀ x : Int32, x + nI 0 = x from fun x => Int32.add_zero x, hl (nI c) (pN f) (Nat.le_refl _)]
    unfold mx
    rw [o (97 + 5 * c + 1) (by omega) (by omega), o 166 (by omega) (by omega)]
    exact E.1.1 c hc
  · rw [hp] at hp'
    by_cases e : p = pN f
    · subst e
      rw [ad_2]
      exact nI_lt (by omega) (by omega)
    · rw [o (118 + 6 * p + 2) (by omega) (by omega)]
      exact E.1.2.1 p (by omega)
  · rw [o 166 (by omega) (by omega)]
    exact E.1.2.2
end EV
