/-! CHANGES: streets come, close and open -/
section AS
variable {m m1 m2 : dM} {s : gS} {f g : Nat → Int32} {X : Nat × (Nat → Int32)} {i : Nat}
/-- a street comes -/
def asF (f : Nat → Int32) (p q v : Int32) : Nat → Int32 := upd (upd (upd (upd (upd f (1 + 4 * sN f) p) (1 + 4 * sN f + 1) q) (1 + 4 * sN f + 2) v) (1 + 4 * sN f + 3) (nI 1)) 0 (nI (sN f + 1))
section AS1
variable {p q v : Int32}
theorem as_o {x : Nat} (h0 : x ≠ 0) (h : ¬ (1 + 4 * sN f ≤ x ∧ x < 1 + 4 * sN f + 4)) : asF f p q v x = f x := by
  unfold asF
  rw [upd_n h0, upd_n (by omega), upd_n (by omega), upd_n (by omega), upd_n (by omega)]
theorem as_n : asF f p q v 0 = nI (sN f + 1) := upd_s
theorem as_0 : asF f p q v (1 + 4 * sN f) = p := by
  unfold asF
  rw [upd_n (by omega), upd_n (by omega), upd_n (by omega), upd_n (by omega), upd_s]
theorem as_1 : asF f p q v (1 + 4 * sN f + 1) = q := by
  unfold asF
  rw [upd_n (by omega), upd_n (by omega), upd_n (by omega), upd_s]
theorem as_2 : asF f p q v (1 + 4 * sN f + 2) = v := by
  unfold asF
  rw [upd_n (by omega), upd_n (by omega), upd_s]
theorem as_3 : asF f p q v (1 + 4 * sN f + 3) = nI 1 := by
  unfold asF
  rw [upd_n (by omega), upd_s]
theorem sN_as (h : sN f < 24) : sN (asF f p q v) = sN f + 1 := by
  unfold sN
  rw [show asF f p q v 0 = nI (sN f + 1) from as_n, nI_clamp (by omega)]
  rfl
theorem as_rv (V : rv f) (h : sN f < 24) (hp : sm p 10) (hq : sm q 10) (hn : p ≠ q) : rv (asF f p q v) := by
  have e : ∀ x, 97 ≤ x → asF f p q v x = f x := fun x q => as_o (by omega) (by omega)
  have es : ∀ t k, t ≠ sN f → k < 4 → asF f p q v (1 + 4 * t + k) = f (1 + 4 * t + k) := fun t k h1 h2 => as_o (by omega) (by omega)
  refine ⟨⟨?_, ?_, fun t ht => ?_, fun t h1 h2 => ?_⟩, ⟨fun c hc => ?_, fun c hc b hb => ?_⟩, V.2.2.1.cg (fun x q _ => e x (by omega)), V.2.2.2.cg V.p8 (fun x q _ _ _ => e x (by omega))⟩
  · rw [as_n, sN_as h]
  · rw [sN_as h]; omega
  · rw [sN_as h] at ht
    by_cases w : t = sN f
    · subst w
      rw [as_0, as_1]
      exact ⟨hp, hq, hn⟩
    · rw [show asF f p q v (1 + 4 * t) = f (1 + 4 * t) from es t 0 w (by omega), es t 1 w (by omega)]
      exact V.1.2.2.1 t (by omega)
  · rw [sN_as h] at h1
    rw [es t 2 (by omega) (by omega)]
    exact V.1.2.2.2 t (by omega) h2
  · rw [e (97 + 5 * c + 0) (by omega), e (97 + 5 * c + 1) (by omega), e (97 + 5 * c + 2) (by omega), sN_as h]
    obtain ⟨q1, q2, q3⟩ := V.2.1.1 c hc
    refine ⟨q1, q2, ?_⟩
    rcases q3 with hv | ⟨t, z1, z2, z3, z4⟩
    · exact .inl hv
    · refine .inr ⟨t, by omega, z2, ?_, ?_⟩
      · rw [show asF f p q v (1 + 4 * t) = f (1 + 4 * t) from es t 0 (by omega) (by omega)]; exact z3
      · rw [es t 3 (by omega) (by omega)]; exact z4
  · rw [e (97 + 5 * c + 0) (by omega), e (97 + 5 * b + 0) (by omega)]
    exact V.2.1.2 c hc b hb
end AS1
theorem d61 (R : RC m 1 f) (V : rv f) (h : sN f < 24) {p q v : Int32} (hv : v = nI 0 ∨ v = nI 1) : ∃ m', D61 m p q v = some (nI (sN f), m') ∧ chg nowC m m' ∧ RC m' 1 (asF f p q v) := by
  unfold D61
  rw [R.sc, V.s0, if_pos (nI_lt h (by omega)), sI_n h (by omega), Option.bind_some, sI_n h (by omega), Option.bind_some]
  have c2 : chg (fun b => b = 3 ∨ b = 4) m (wI (wI m 3 (sN f) p) 4 (sN f) q) := chg.wI (chg.wI chg.rf (.inl rfl)) (.inr rfl)
  have r3 : rI (wI (wI m 3 (sN f) p) 4 (sN f) q) 3 = upd (rI m 3) (sN f) p := by rw [rI_wn (by decide), rI_ws]
  have r4 : rI (wI (wI m 3 (sN f) p) 4 (sN f) q) 4 = upd (rI m 4) (sN f) q := by rw [rI_ws, rI_wn (by decide)]
  generalize wI (wI m 3 (sN f) p) 4 (sN f) q = K at c2 r3 r4
  have r2 : rI K 2 = rI m 2 := c2.1 2 (by omega)
  have hK : ∃ K3, (if v = nI 0 then some K else (fI K 2 2 ((rI K 2 2) ||| ((nI 1) <<< (nI (sN f) &&& nI 31)))).bind fun (m4 : dM) => some m4) = some K3 ∧ chg (fun b => b = 2) K K3 ∧ (∀ j, j ≠ 2 → rI K3 2 j = rI m 2 j) ∧ ∀ t, t < 24 → bt (rI K3 2 2) t = if t = sN f then decide (v = nI 1) else bt (rI m 2 2) t := by
    rcases hv with rfl | rfl
    · refine ⟨K, if_pos rfl, chg.rf, fun j _ => by rw [r2], fun t ht => ?_⟩
      rw [r2]
      by_cases w : t = sN f
      · rw [if_pos w, w, R.nb h]
        have := V.1.2.2.2 (sN f) (Nat.le_refl _) h
        rw [decide_eq_false this]
        rfl
      · rw [if_neg w]
    · refine ⟨wI K 2 2 ((rI K 2 2) ||| ((nI 1) <<< (nI (sN f) &&& nI 31))), by rw [if_neg (by decide)]; rfl, chg.wI chg.rf rfl, fun j hj => by rw [rI_ws, upd_n hj, r2], fun t ht => ?_⟩
      rw [rI_ws, upd_s, b_or, b_one (by omega) (by omega), r2]
      by_cases w : t = sN f
      · rw [if_pos w, decide_eq_true w, Bool.or_true]
        rfl
      · rw [if_neg w, decide_eq_false w, Bool.or_false]
  obtain ⟨K3, e3, c3, j3, b3⟩ := hK
  rw [e3, Option.bind_some, fI_e, Option.bind_some, fI_e, Option.bind_some]
  have h3 : rI K3 3 = upd (rI m 3) (sN f) p := (c3.1 3 (by omega)).trans r3
  have h4 : rI K3 4 = upd (rI m 4) (sN f) q := (c3.1 4 (by omega)).trans r4
  have cA : chg (fun b => 2 ≤ b ∧ b ≤ 4) m K3 := (c2.mono (fun b q => by omega)).tr (c3.mono (fun b q => by omega))
  refine ⟨_, rfl, chg.wI (chg.wI (cA.mono (fun b q => .inl (by omega))) (.inl (by omega))) (.inl (by omega)), R.mks (chg.wI (chg.wI cA (by omega)) (by omega)) (fun x q => as_o (by omega) (by omega)) ⟨?_, fun t ht => ?_⟩ V⟩
  · show rI _ 2 4 = _
    rw [rI_ws, upd_s, rI_ws, upd_n (by decide), j3 4 (by decide), R.sc, V.s0, nI_add, as_n]
  · show rI _ 3 t = _ ∧ rI _ 4 t = _ ∧ bt (rI _ 2 2) t = _ ∧ bt (rI _ 2 3) t = _
    rw [rI_wn (show (3 : Nat) ≠ 2 by decide), rI_wn (show (3 : Nat) ≠ 2 by decide), h3, rI_wn (show (4 : Nat) ≠ 2 by decide), rI_wn (show (4 : Nat) ≠ 2 by decide), h4, rI_ws, upd_n (show 2 ≠ 4 by decide), upd_n (show 3 ≠ 4 by decide), rI_ws, upd_n (show 2 ≠ 3 by decide), upd_s, b3 t ht, b_or, b_one (by omega) (by omega), j3 3 (by decide), R.ob ht]
    by_cases w : t = sN f
    · subst w
      rw [upd_s, upd_s, as_0, as_1, as_2, as_3, if_pos rfl]
      refine ⟨rfl, rfl, rfl, ?_⟩
      rw [decide_eq_true (rfl : sN f = sN f), Bool.or_true]
      rfl
    · have es : ∀ k, k < 4 → asF f p q v (1 + 4 * t + k) = f (1 + 4 * t + k) := fun k h2 => as_o (by omega) (by omega)
      rw [upd_n w, upd_n w, show asF f p q v (1 + 4 * t) = f (1 + 4 * t) from es 0 (by omega), es 1 (by omega), es 2 (by omega), es 3 (by omega), if_neg w, decide_eq_false w, Bool.or_false]
      exact ⟨R.fr ht, R.to ht, R.nb ht, rfl⟩
/-- a street with this beginning and this end -/
def mtB (f : Nat → Int32) (p q : Int32) (t : Nat) : Bool := decide (f (1 + 4 * t) = p ∧ f (1 + 4 * t + 1) = q)
theorem d60 (R : RC m 1 f) (V : rv f) {p q : Int32} : ∃ x, D60 m p q = some x ∧ (x = -1 ↔ anyN (mtB f p q) (sN f) = false) := by
  have h24 := V.s24
  unfold D60
  refine lp_inv (fun k t => t = nI k ∧ anyN (mtB f p q) k = false) (fun x => x = -1 ↔ anyN (mtB f p q) (sN f) = false) (sN f) (by omega) ⟨rfl, rfl⟩ ?_ ?_
  · rintro k t hk ⟨rfl, ho⟩
    show (∃ s', (if rI m 2 4 ≤ nI k then _ else Option.bind (gI m 3 24 (nI k)) _) = _ ∧ _) ∨ (∃ b, (if rI m 2 4 ≤ nI k then _ else Option.bind (gI m 3 24 (nI k)) _) = _ ∧ _)
    rw [R.sc, V.s0, if_neg (nI_ge hk (by omega)), gI_n (by omega) (by omega), gI_n (by omega) (by omega), R.fr (by omega), R.to (by omega)]
    show (∃ s', (if f (1 + 4 * k) = p then (if f (1 + 4 * k + 1) = q then _ else _) else _) = _ ∧ _) ∨ (∃ b, (if f (1 + 4 * k) = p then (if f (1 + 4 * k + 1) = q then _ else _) else _) = _ ∧ _)
    by_cases q1 : f (1 + 4 * k) = p
    · by_cases q2 : f (1 + 4 * k + 1) = q
      · rw [if_pos q1, if_pos q2]
        refine .inr ⟨nI k, rfl, ?_⟩
        have : anyN (mtB f p q) (sN f) = true := an_t _ k hk (decide_eq_true ⟨q1, q2⟩)
        rw [this, nI_m1 (by omega)]
        simp
      · rw [if_pos q1, if_neg q2]
        refine .inl ⟨nI k + nI 1, rfl, nI_add k 1, ?_⟩
        rw [an4, ho, Bool.false_or]
        exact decide_eq_false (fun z => q2 z.2)
    · rw [if_neg q1]
      refine .inl ⟨nI k + nI 1, rfl, nI_add k 1, ?_⟩
      rw [an4, ho, Bool.false_or]
      exact decide_eq_false (fun z => q1 z.1)
  · rintro t ⟨rfl, ho⟩
    refine ⟨-1, ?_, by rw [ho]; simp⟩
    show (if rI m 2 4 ≤ nI (sN f) then _ else _) = _
    rw [R.sc, V.s0, if_pos (nI_le (Nat.le_refl _) (by omega))]
end AS
