/-! CHANGES: streets close and open -/
section TG
variable {m m1 m2 : dM} {s : gS} {f g : Nat → Int32} {X : Nat × (Nat → Int32)} {i : Nat}
def tgG (f : Nat → Int32) (t : Nat) : Nat → Int32 := upd f (1 + 4 * t + 3) (if f (1 + 4 * t + 3) = nI 1 then nI 0 else nI 1)
/-- orders that are gone, of the first so many couriers -/
def dpk (g : Nat → Int32) (x : Int32) (k : Nat) : Nat → Int32 := fun y => if 97 ≤ y ∧ y < 97 + 5 * k ∧ (y - 97) % 5 = 2 ∧ g y = x then -1 else g y
def tgF (f : Nat → Int32) (t : Nat) : Nat → Int32 := if f (1 + 4 * t + 3) = nI 1 then dpk (tgG f t) (nI t) 4 else tgG f t
def tgB (f : Nat → Int32) (t : Nat) : Int32 := if f (1 + 4 * t + 3) = nI 1 then nI 0 else nI 1
theorem dpk_o {x : Int32} {k y : Nat} (h : ∀ c, c < k → y ≠ 97 + 5 * c + 2) : dpk g x k y = g y := by
  unfold dpk
  rw [if_neg]
  rintro ⟨h1, h2, h3, -⟩
  exact h ((y - 97) / 5) (by omega) (by omega)
theorem dpk_c {x : Int32} {k c : Nat} (hc : c < k) : dpk g x k (97 + 5 * c + 2) = if g (97 + 5 * c + 2) = x then -1 else g (97 + 5 * c + 2) := by
  unfold dpk
  by_cases q : g (97 + 5 * c + 2) = x
  · rw [if_pos ⟨by omega, by omega, by omega, q⟩, if_pos q]
  · rw [if_neg (fun z => q z.2.2.2), if_neg q]
theorem dpk_s {x : Int32} {k : Nat} : upd (dpk g x k) (97 + 5 * k + 2) (if g (97 + 5 * k + 2) = x then -1 else g (97 + 5 * k + 2)) = dpk g x (k + 1) := by
  funext y
  by_cases e : y = 97 + 5 * k + 2
  · subst e
    rw [upd_s, dpk_c (by omega)]
  · rw [upd_n e]
    unfold dpk
    by_cases q : 97 ≤ y ∧ y < 97 + 5 * k ∧ (y - 97) % 5 = 2 ∧ g y = x
    · rw [if_pos q, if_pos ⟨q.1, by omega, q.2.2⟩]
    · rw [if_neg q, if_neg]
      rintro ⟨h1, h2, h3, h4⟩
      exact q ⟨h1, by omega, h3, h4⟩
theorem dpk_0 {x : Int32} : dpk g x 0 = g := by
  funext y
  exact dpk_o (fun c hc => by omega)
theorem tgF_o {t y : Nat} (h : ∀ c, c < 4 → y ≠ 97 + 5 * c + 2) : tgF f t y = tgG f t y := by
  unfold tgF
  split
  · exact dpk_o h
  · rfl
theorem tgG_o {t y : Nat} (h : y ≠ 1 + 4 * t + 3) : tgG f t y = f y := upd_n h
theorem tgG_s {t : Nat} : tgG f t (1 + 4 * t + 3) = tgB f t := upd_s
theorem tg_rv (V : rv f) {t : Nat} (ht : t < sN f) : rv (tgF f t) := by
  have h24 := V.s24
  have e : ∀ y, y ≠ 1 + 4 * t + 3 → (∀ c, c < 4 → y ≠ 97 + 5 * c + 2) → tgF f t y = f y := fun y q1 q2 => (tgF_o q2).trans (tgG_o q1)
  refine ⟨⟨?_, ?_, fun u hu => ?_, fun u h1 h2 => ?_⟩, ⟨fun c hc => ?_, fun c hc b hb => ?_⟩, V.2.2.1.cg (fun x q _ => e x (by omega) (fun c hc => by omega)), V.2.2.2.cg V.p8 (fun x q _ _ _ => e x (by omega) (fun c hc => by omega))⟩
  · rw [sN.cg (e 0 (by omega) (fun c hc => by omega)), e 0 (by omega) (fun c hc => by omega)]
    exact V.s0
  · rw [sN.cg (e 0 (by omega) (fun c hc => by omega))]
    exact V.s24
  · rw [sN.cg (e 0 (by omega) (fun c hc => by omega))] at hu
    rw [e (1 + 4 * u) (by omega) (fun c hc => by omega), e (1 + 4 * u + 1) (by omega) (fun c hc => by omega)]
    exact V.1.2.2.1 u hu
  · rw [sN.cg (e 0 (by omega) (fun c hc => by omega))] at h1
    rw [e (1 + 4 * u + 2) (by omega) (fun c hc => by omega)]
    exact V.1.2.2.2 u h1 h2
  · obtain ⟨q1, q2, q3⟩ := V.2.1.1 c hc
    rw [e (97 + 5 * c + 0) (by omega) (fun c hc => by omega), e (97 + 5 * c + 1) (by omega) (fun c hc => by omega), sN.cg (e 0 (by omega) (fun c hc => by omega))]
    refine ⟨q1, q2, ?_⟩
    have ho : tgF f t (97 + 5 * c + 2) = if f (1 + 4 * t + 3) = nI 1 ∧ f (97 + 5 * c + 2) = nI t then -1 else f (97 + 5 * c + 2) := by
      unfold tgF
      by_cases w : f (1 + 4 * t + 3) = nI 1
      · rw [if_pos w, dpk_c hc, tgG_o (by omega)]
        by_cases w2 : f (97 + 5 * c + 2) = nI t
        · rw [if_pos w2, if_pos ⟨w, w2⟩]
        · rw [if_neg w2, if_neg (fun z => w2 z.2)]
      · rw [if_neg w, if_neg (fun z => w z.1), tgG_o (by omega)]
    rw [ho]
    by_cases w : f (1 + 4 * t + 3) = nI 1 ∧ f (97 + 5 * c + 2) = nI t
    · exact .inl (if_pos w)
    · rw [if_neg w]
      rcases q3 with hv | ⟨u, z1, z2, z3, z4⟩
      · exact .inl hv
      · refine .inr ⟨u, z1, z2, ?_, ?_⟩
        · rw [e (1 + 4 * u) (by omega) (fun c hc => by omega)]; exact z3
        · by_cases y : u = t
          · subst y
            exact absurd ⟨z4, z2⟩ w
          · rw [e (1 + 4 * u + 3) (by omega) (fun c hc => by omega)]; exact z4
  · rw [e (97 + 5 * c + 0) (by omega) (fun c hc => by omega), e (97 + 5 * b + 0) (by omega) (fun c hc => by omega)]
    exact V.2.1.2 c hc b hb
theorem RC_tg (R : RC m 1 f) (V : rv f) {t : Nat} (ht : t < 24) : RC (wI m 2 3 (rI m 2 3 ^^^ (nI 1 <<< (nI t &&& nI 31)))) 1 (tgG f t) := by
  refine R.mks (chg.wI chg.rf (by omega)) (fun x q => tgG_o (by omega)) ⟨?_, fun u hu => ?_⟩ V
  · show rI (wI m 2 3 _) 2 4 = _
    rw [rI_ws, upd_n (by decide), R.sc, tgG_o (by omega)]
  · show rI (wI m 2 3 _) 3 u = _ ∧ rI (wI m 2 3 _) 4 u = _ ∧ bt (rI (wI m 2 3 (rI m 2 3 ^^^ (nI 1 <<< (nI t &&& nI 31)))) 2 2) u = _ ∧ bt (rI (wI m 2 3 (rI m 2 3 ^^^ (nI 1 <<< (nI t &&& nI 31)))) 2 3) u = _
    rw [rI_wn (show (3 : Nat) ≠ 2 by decide), rI_wn (show (4 : Nat) ≠ 2 by decide), rI_ws, upd_n (show 2 ≠ 3 by decide), upd_s, b_xor, b_one (by omega) (by omega), R.ob hu, tgG_o (by omega), tgG_o (by omega), tgG_o (by omega)]
    refine ⟨R.fr hu, R.to hu, R.nb hu, ?_⟩
    by_cases e : u = t
    · subst e
      rw [tgG_s, decide_eq_true (rfl : u = u)]
      unfold tgB
      by_cases q : f (1 + 4 * u + 3) = nI 1
      · rw [if_pos q, decide_eq_true q]
        rfl
      · rw [if_neg q, decide_eq_false q]
        rfl
    · rw [tgG_o (by omega), decide_eq_false e, Bool.xor_false]
theorem d5 {p : Int32} : ∃ m', D5 m p = some m' ∧ chg (fun b => b = 7) m m' ∧ ∀ c, c < 4 → rI m' 7 c = if rI m 7 c = p then -1 else rI m 7 c := by
  unfold D5
  refine lpx (fun k t => t.1 = nI k ∧ chg (fun b => b = 7) m t.2 ∧ ∀ c, c < 4 → rI t.2 7 c = if c < k ∧ rI m 7 c = p then -1 else rI m 7 c) (fun m' => chg (fun b => b = 7) m m' ∧ ∀ c, c < 4 → rI m' 7 c = if rI m 7 c = p then -1 else rI m 7 c) 4 (by omega) ⟨rfl, chg.rf, fun c _ => by rw [if_neg (fun z => by omega)]⟩ ?_ ?_ (fun m' h => ⟨m', rfl, h⟩)
  · rintro k ⟨t, m2⟩ hk ⟨ht, c2, r2⟩
    replace ht : t = nI k := ht
    replace c2 : chg (fun b => b = 7) m m2 := c2
    replace r2 : ∀ c, c < 4 → rI m2 7 c = if c < k ∧ rI m 7 c = p then -1 else rI m 7 c := r2
    subst ht
    have ek : rI m2 7 k = rI m 7 k := by rw [r2 k hk, if_neg (fun z => by omega)]
    refine .inl ?_
    show ∃ s', (if nI 4 ≤ nI k then _ else Option.bind (gI m2 7 4 (nI k)) _) = _ ∧ _
    rw [if_neg (nI_ge hk (by omega)), gI_n hk (by omega), ek]
    show ∃ s', Option.bind (if rI m 7 k = p then Option.bind (sI m2 7 4 (nI k) (-1)) _ else _) _ = _ ∧ _
    by_cases q : rI m 7 k = p
    · rw [if_pos q, sI_n hk (by omega)]
      refine ⟨(nI k + nI 1, wI m2 7 k (-1)), rfl, nI_add k 1, chg.wI c2 rfl, fun c hc => ?_⟩
      show rI (wI m2 7 k (-1)) 7 c = _
      rw [rI_ws]
      by_cases e : c = k
      · subst e
        rw [upd_s, if_pos ⟨by omega, q⟩]
      · rw [upd_n e, r2 c hc]
        simp only [ite_k e]
    · rw [if_neg q]
      refine ⟨(nI k + nI 1, m2), rfl, nI_add k 1, c2, fun c hc => ?_⟩
      show rI m2 7 c = _
      rw [r2 c hc]
      by_cases e : c = k
      · subst e
        rw [if_neg (fun z => q z.2), if_neg (fun z => q z.2)]
      · simp only [ite_k e]
  · rintro ⟨t, m2⟩ ⟨ht, c2, r2⟩
    replace ht : t = nI 4 := ht
    replace r2 : ∀ c, c < 4 → rI m2 7 c = if c < 4 ∧ rI m 7 c = p then -1 else rI m 7 c := r2
    subst ht
    refine ⟨m2, (by show (if nI 4 ≤ nI 4 then _ else _) = _; rw [if_pos (nI_le (Nat.le_refl 4) (by omega))]), c2, fun c hc => ?_⟩
    rw [r2 c hc]
    by_cases q : rI m 7 c = p
    · rw [if_pos ⟨hc, q⟩, if_pos q]
    · rw [if_neg (fun z => q z.2), if_neg q]
theorem tgB_e {t : Nat} : (if tgG f t (1 + 4 * t + 3) = nI 1 then nI 1 else nI 0) = tgB f t := by
  rw [tgG_s]
  unfold tgB
  split <;> decide
theorem tgB_g {t : Nat} : gB (tgB f t) = some (tgB f t) := by
  unfold tgB
  exact gB_j
theorem d47 (R : RC m 1 f) (V : rv f) {t : Nat} (ht : t < sN f) : ∃ m', D47 m (nI t) = some (tgB f t, m') ∧ chg nowC m m' ∧ RC m' 1 (tgF f t) := by
  have h24 := V.s24
  have R1 := RC_tg R V (show t < 24 by omega)
  have c1 : chg (fun b => b = 2) m (wI m 2 3 (rI m 2 3 ^^^ (nI 1 <<< (nI t &&& nI 31)))) := chg.wI chg.rf rfl
  unfold D47
  show ∃ m', Option.bind (D62 (wI m 2 3 (rI m 2 3 ^^^ (nI 1 <<< (nI t &&& nI 31)))) (nI t)) _ = _ ∧ _
  generalize wI m 2 3 (rI m 2 3 ^^^ (nI 1 <<< (nI t &&& nI 31))) = K at R1 c1
  rw [d62 R1 (by omega), tgB_e]
  show ∃ m', Option.bind (if tgB f t = nI 0 then Option.bind (D5 K (nI t)) _ else _) _ = _ ∧ _
  by_cases q : f (1 + 4 * t + 3) = nI 1
  · have e0 : tgB f t = nI 0 := if_pos q
    obtain ⟨m5, e5, c5, h5⟩ := d5 (m := K) (p := nI t)
    have R5 : RC m5 1 (dpk (tgG f t) (nI t) 4) := by
      -- its rows of couriers alone
      refine ⟨R1.1.cg (fun x q => dpk_o (fun c hc => by omega)) (fun b _ _ => c5.1 b (by omega)), fun c hc => ?_, R1.2.2.1.cg (fun x q _ => dpk_o (fun c hc => by omega)) (fun b _ _ => c5.1 b (by omega)), R1.2.2.2.1.cg (by rw [tN.cg (tgG_o (by omega))]; exact V.t61) (fun x q => dpk_o (fun c hc => by omega)) (fun b _ _ => ⟨c5.1 b (by omega), c5.2.1 b (by omega)⟩), R1.2.2.2.2.cg (fun x q _ => dpk_o (fun c hc => by omega)) (fun b _ => c5.1 b (by omega))⟩
      show bt (rI m5 5 4) c = _ ∧ rI m5 6 c = _ ∧ rI m5 7 c = _ ∧ rI m5 8 c = _ ∧ rI m5 9 c = _
      rw [c5.1 5 (by omega), c5.1 6 (by omega), c5.1 8 (by omega), c5.1 9 (by omega), h5 c hc, dpk_c hc, dpk_o (y := 97 + 5 * c + 0) (fun c hc => by omega), dpk_o (y := 97 + 5 * c + 1) (fun c hc => by omega), dpk_o (y := 97 + 5 * c + 3) (fun c hc => by omega), dpk_o (y := 97 + 5 * c + 4) (fun c hc => by omega), R1.od hc]
      exact ⟨R1.vb hc, R1.at hc, rfl, R1.mv hc, R1.oc hc⟩
    refine ⟨m5, ?_, (c1.mono (fun b q => .inl (by omega))).tr (c5.mono (fun b q => .inl (by omega))), ?_⟩
    · rw [if_pos e0, e5]
      show Option.bind (D62 m5 (nI t)) _ = _
      rw [d62 R5 (by omega), dpk_o (fun c hc => by omega), tgB_e]
      show Option.bind (gB (tgB f t)) _ = _
      rw [tgB_g]
      rfl
    · unfold tgF
      rw [if_pos q]
      exact R5
  · have e0 : tgB f t = nI 1 := if_neg q
    refine ⟨K, ?_, c1.mono (fun b q => .inl (by omega)), ?_⟩
    · rw [if_neg (by rw [e0]; decide)]
      show Option.bind (D62 K (nI t)) _ = _
      rw [d62 R1 (by omega), tgB_e]
      show Option.bind (gB (tgB f t)) _ = _
      rw [tgB_g]
      rfl
    · unfold tgF
      rw [if_neg q]
      exact R1
end TG
