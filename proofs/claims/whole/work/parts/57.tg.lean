/-! CHANGES: streets close and open -/
section TG
variable {m m1 m2 : dM} {s : gS} {f g : Nat → Int32} {X : Nat × (Nat → Int32)} {i : Nat}
def tgG (f : Nat → Int32) (t : Nat) : Nat → Int32 := upd f (1 + 4 * t + 3) (if f (1 + 4 * t + 3) = nI 1 then nI 0 else nI 1)
/-- orders that are gone, of the first so many couriers -/
def dpk (g : Nat → Int32) (x : Int32) (k : Nat) : Nat → Int32 := fun y => if 97 ≤ y ∧ y < 97 + 5 * k ∧ (y - 97) % 5 = 2 ∧ g y = x then -1 else g y
def tgF (f : Nat → Int32) (t : Nat) : Nat → Int32 := if f (1 + 4 * t + 3) = nI 1 then dpk (tgG f t) (nI t) 4 else tgG f t
def tgB (f : Nat → Int32) (t : Nat) : Int32 := if f (1 + 4 * t + 3) = nI 1 then nI 0 else nI 1
theorem dpk_o {x : Int32} {k y : Nat} (h : ∀ c, c < k → y ≠ 97 + 5 * c + 2) : dpk g x k y = g y := by
  unfold dpk
  rw [if_neg]
  rintro ⟨h1, h2, h3, -⟩
  exact h ((y - 97) / 5) (by omega) (by omega)
theorem dpk_c {x : Int32} {k c : Nat} (hc : c < k) : dpk g x k (97 + 5 * c + 2) = if g (97 + 5 * c + 2) = x then -1 else g (97 + 5 * c + 2) := by
  unfold dpk
  by_cases q : g (97 + 5 * c + 2) = x
  · rw [if_pos ⟨by omega, by omega, by omega, q⟩, if_pos q]
  · rw [if_neg (fun z => q z.2.2.2), if_neg q]
theorem dpk_s {x : Int32} {k : Nat} : upd (dpk g x k) (97 + 5 * k + 2) (if g (97 + 5 * k + 2) = x then -1 else g (97 + 5 * k + 2)) = dpk g x (k + 1) := by
  funext y
  by_cases e : y = 97 + 5 * k + 2
  · subst e
    rw [upd_s, dpk_c (by omega)]
  · rw [upd_n e]
    unfold dpk
    by_cases q : 97 ≤ y ∧ y < 97 + 5 * k ∧ (y - 97) % 5 = 2 ∧ g y = x
    · rw [if_pos q, if_pos ⟨q.1, by omega, q.2.2⟩]
    · rw [if_neg q, if_neg]
      rintro ⟨h1, h2, h3, h4⟩
      exact q ⟨h1, by omega, h3, h4⟩
theorem dpk_0 {x : Int32} : dpk g x 0 = g := by
  funext y
  exact dpk_o (fun c hc => by omega)
theorem tgF_o {t y : Nat} (h : ∀ c, c < 4 → y ≠ 97 + 5 * c + 2) : tgF f t y = tgG f t y := by
  unfold tgF
  split
  · exact dpk_o h
  · rfl
theorem tgG_o {t y : Nat} (h : y ≠ 1 + 4 * t + 3) : tgG f t y = f y := upd_n h
theorem tgG_s {t : Nat} : tgG f t (1 + 4 * t + 3) = tgB f t := upd_s
theorem tg_rv (V : rv f) {t : Nat} (ht : t < sN f) : rv (tgF f t) := by
  have h24 := V.s24
  have e : ∀ y, y ≠ 1 + 4 * t + 3 → (∀ c, c < 4 → y ≠ 97 + 5 * c + 2) → tgF f t y = f y := fun y q1 q2 => (tgF_o q2).trans (tgG_o q1)
  refine ⟨⟨?_, ?_, fun u hu => ?_, fun u h1 h2 => ?_⟩, ⟨fun c hc => ?_, fun c hc b hb => ?_⟩, V.2.2.1.cg (fun x q _ => e x (by omega) (fun c hc => by omega)), V.2.2.2.cg V.p8 (fun x q _ _ _ => e x (by omega) (fun c hc => by omega))⟩
  · rw [sN.cg (e 0 (by omega) (fun c hc => by omega)), e 0 (by omega) (fun c hc => by omega)]
    exact V.s0
  · rw [sN.cg (e 0 (by omega) (fun c hc => by omega))]
    exact V.s24
  · rw [sN.cg (e 0 (by omega) (fun c hc => by omega))] at hu
    rw [e (1 + 4 * u) (by omega) (fun c hc => by omega), e (1 + 4 * u + 1) (by omega) (fun c hc => by omega)]
    exact V.1.2.2.1 u hu
  · rw [sN.cg (e 0 (by omega) (fun c hc => by omega))] at h1
    rw [e (1 + 4 * u + 2) (by omega) (fun c hc => by omega)]
    exact V.1.2.2.2 u h1 h2
  · obtain ⟨q1, q2, q3⟩ := V.2.1.1 c hc
    rw [e (97 + 5 * c + 0) (by omega) (fun c hc => by omega), e (97 + 5 * c + 1) (by omega) (fun c hc => by omega), sN.cg (e 0 (by omega) (fun c hc => by omega))]
    refine ⟨q1, q2, ?_⟩
    have ho : tgF f t (97 + 5 * c + 2) = if f (1 + 4 * t + 3) = nI 1 ∧ f (97 + 5 * c + 2) = nI t then -1 else f (97 + 5 * c + 2) := by
      unfold tgF
      by_cases w : f (1 + 4 * t + 3) = nI 1
      · rw [if_pos w, dpk_c hc, tgG_o (by omega)]
        by_cases w2 : f (97 + 5 * c + 2) = nI t
        · rw [if_pos w2, if_pos ⟨w, w2⟩]
        · rw [if_neg w2, if_neg (fun z => w2 z.2)]
      · rw [if_neg w, if_neg (fun z => w z.1), tgG_o (by omega)]
    rw [ho]
    by_cases w : f (1 + 4 * t + 3) = nI 1 ∧ f (97 + 5 * c + 2) = nI t
    · exact .inl (if_pos w)
    · rw [if_neg w]
      rcases q3 with hv | ⟨u, z1, z2, z3, z4⟩
      · exact .inl hv
      · refine .inr ⟨u, z1, z2, ?_, ?_⟩
        · rw [e (1 + 4 * u) (by omega) (fun c hc => by omega)]; exact z3
        · by_cases y : u = t
          · subst y
            exact absurd ⟨z4, z2⟩ w
          · rw [e (1 + 4 * u + 3) (by omega) (fun c hc => by omega)]; exact z4
  · rw [e (97 + 5 * c + 0) (by omega) (fun c hc => by omega), e (97 + 5 * b + 0) (by omega) (fun c hc => by omega)]
    exact V.2.1.2 c hc b hb
theorem RC_tg (R : RC m 1 f) (V : rv f) {t : Nat} (ht : t < 24) : RC (wI m 2 3 (rI m 2 3 ^^^ (nI 1 <<< (nI t &&& nI 31)))) 1 (tgG f t) := by
  refine R.mks (chg.wI chg.rf (by omega)) (fun x q => tgG_o (by omega)) ⟨?_, fun u hu => ?_⟩ V
  · show rI (wI m 2 3 _) 2 4 = _
    rw [rI_ws, upd_n (by decide), R.sc, tgG_o (by omega)]
  · show rI (wI m 2 3 _) 3 u = _ ∧ rI (wI m 2 3 _) 4 u = _ ∧ bt (rI (wI m 2 3 (rI m 2 3 ^^^ (nI 1 <<< (nI t &&& nI 31)))) 2 2) u = _ ∧ bt (rI (wI m 2 3 (rI m 2 3 ^^^ (nI 1 <<< (nI t &&& nI 31)))) 2 3) u = _
    rw [rI_wn (show (3 : Nat) ≠ 2 by decide), rI_wn (show (4 : Nat) ≠ 2 by decide), rI_ws, upd_n (show 2 ≠ 3 by decide), upd_s, b_xor, b_one (by omega) (by omega), R.ob hu, tgG_o (by omega), tgG_o (by omega), tgG_o (by omega)]
    refine ⟨R.fr hu, R.to hu, R.nb hu, ?_⟩
    by_cases e : u = t
    · subst e
      rw [tgG_s, decide_eq_true (rfl : u = u)]
      unfold tgB
      by_cases q : f (1 + 4 * u + 3) = nI 1
      · rw [if_pos q, decide_eq_true q]
        rfl
      · rw [if_neg q, decide_eq_false q]
        rfl
    · rw [tgG_o (by omega), decide_eq_false e, Bool.xor_false]
theorem d5 {p : Int32} : ∃ m', D5 m p = some m' ∧ chg (fun b => b = 7) m m' ∧ ∀ c, c < 4 → rI m' 7 c = if rI m 7 c = p then -1 else rI m 7 c := by
  unfold D5
  refine lpx (fun k t => t.1 = nI k ∧ chg (fun b => b = 7) m t.2 ∧ ∀ c, c < 4 → rI t.2 7 c = if c < k ∧ rI m 7 c = p then -1 else rI m 7 c) (fun m' => chg (fun b => b = 7) m m' ∧ ∀ c, c < 4 → rI m' 7 c = if rI m 7 c = p then -1 else rI m 7 c) 4 (by omega) ⟨rfl, chg.rf, fun c _ => by rw [if_neg (fun z => by omega)]⟩ ?_ ?_ (fun m' h => ⟨m', rfl, h⟩)
  · rintro k ⟨t, m2⟩ hk ⟨ht, c2, r2⟩
    replace ht : t = nI k := ht
    replace c2 : chg (fun b => b = 7) m m2 := c2
    replace r2 : ∀ c, c < 4 → rI m2 7 c = if c < k ∧ rI m 7 c = p then -1 else rI m 7 c := r2
    subst ht
    have ek : rI m2 7 k = rI m 7 k := by rw [r2 k hk, if_neg (fun z => by omega)]
    refine .inl ?_
    show ∃ s', (if nI 4 ≤ nI k then _ else Option.bind (gI m2 7 4 (nI k)) _) = _ ∧ _
    rw [if_neg (nI_ge hk (by omega)), gI_n hk (by omega), ek]
    show ∃ s', Option.bind (if rI m 7 k = p then Option.bind (sI m2 7 4 (nI k) (-1)) _ else _) _ = _ ∧ _
    by_cases q : rI m 7 k = p
    · rw [if_pos q, sI_n hk (by omega)]
      refine ⟨(nI k + nI 1, wI m2 7 k (-1)), rfl, nI_add k 1, chg.wI c2 rfl, fun c hc => ?_⟩
      show rI (wI m2 7 k (-1)) 7 c = _
      rw [rI_ws]
      by_cases e : c = k
      · subst e
        rw [upd_s, if_pos ⟨by omega, q⟩]
      · rw [upd_n e, r2 c hc]
        simp only [ite_k e]
    · rw [if_neg q]
      refine ⟨(nI k + nI 1, m2), rfl, nI_add k 1, c2, fun c hc => ?_⟩
      show rI m2 7 c = _
      rw [r2 c hc]
      by_cases e : c = k
      · subst e
        rw [if_neg (fun z => q z.2), if_neg (fun z => q z.2)]
      · simp only [ite_k e]
  · rintro ⟨t, m2⟩ ⟨ht, c2, r2⟩
    replace ht : t = nI 4 := ht
    replace r2 : ∀ c, c < 4 → rI m2 7 c = if c < 4 ∧ rI m 7 c = p then -1 else rI m 7 c := r2
    subst ht
    refine ⟨m2, (by show (if nI 4 ≤ nI 4 then _ else _) = _; rw [if_pos (nI_le (Nat.le_refl 4) (by omega))]), c2, fun c hc => ?_⟩
    rw [r2 c hc]
    by_cases q : rI m 7 c = p
    · rw [if_pos ⟨hc, q⟩, if_pos q]
    · rw [if_neg (fun z => q z.2), if_neg q]
theorem tgB_e {t : Nat} : (if tgG f t (1 + 4 * t + 3) = nI 1 then nI 1 else nI 0) = tgB f t := by
  rw [tgG_s]
  unfold tgB
  split <;> decide
theorem tgB_g {t : Nat} : gB (tgB f t) = some (tgB f t) := by
  unfold tgB
  exact gB_j
theorem d47 (R : RC m 1 f) (V : rv f) {t : Nat} (ht : t < sN f) : ∃ m', D47 m (nI t) = some (tgB f t, m') ∧ chg nowC m m' ∧ RC m' 1 (tgF f t) := by
  have h24 := V.s24
  have R1 := RC_tg R V (show t < 24 by omega)
  have c1 : chg (fun b => b = 2) m (wI m 2 3 (rI m 2 3 ^^^ (nI 1 <<< (nI t &&& nI 31)))) := chg.wI chg.rf rfl
  unfold D47
  show ∃ m', Option.bind (D62 (wI m 2 3 (rI m 2 3 ^^^ (nI 1 <<< (nI t &&& nI 31)))) (nI t)) _ = _ ∧ _
  generalize wI m 2 3 (rI m 2 3 ^^^ (nI 1 <<< (nI t &&& nI 31))) = K at R1 c1
  rw [d62 R1 (by omega), tgB_e]
  show ∃ m', Option.bind (if tgB f t = nI 0 then Option.bind (D5 K (nI t)) _ else _) _ = _ ∧ _
  by_cases q : f (1 + 4 * t + 3) = nI 1
  · have e0 : tgB f t = nI 0 := if_pos q
    obtain ⟨m5, e5, c5, h5⟩ := d5 (m := K) (p := nI t)
    have R5 : RC m5 1 (dpk (tgG f t) (nI t) 4) := by
      -- its rows of couriers alone
      refine ⟨R1.1.cg (fun x q => dpk_o (fun c hc => by omega)) (fun b _ _ => c5.1 b (by omega)), fun c hc => ?_, R1.2.2.1.cg (fun x q _ => dpk_o (fun c hc => by omega)) (fun b _ _ => c5.1 b (by omega)), R1.2.2.2.1.cg (by rw [tN.cg (tgG_o (by omega))]; exact V.t61) (fun x q => dpk_o (fun c hc => by omega)) (fun b _ _ => ⟨c5.1 b (by omega), c5.2.1 b (by omega)⟩), R1.2.2.2.2.cg (fun x q _ => dpk_o (fun c hc => by omega)) (fun b _ => c5.1 b (by omega))⟩
      show bt (rI m5 5 4) c = _ ∧ rI m5 6 c = _ ∧ rI m5 7 c = _ ∧ rI m5 8 c = _ ∧ rI m5 9 c = _
      rw [c5.1 5 (by omega), c5.1 6 (by omega), c5.1 8 (by omega), c5.1 9 (by omega), h5 c hc, dpk_c hc, dpk_o (y := 97 + 5 * c + 0) (fun c hc => by omega), dpk_o (y := 97 + 5 * c + 1) (fun c hc => by omega), dpk_o (y := 97 + 5 * c + 3) (fun c hc => by omega), dpk_o (y := 97 + 5 * c + 4) (fun c hc => by omega), R1.od hc]
      exact ⟨R1.vb hc, R1.at hc, rfl, R1.mv hc, R1.oc hc⟩
    refine ⟨m5, ?_, (c1.mono (fun b q => .inl (by omega))).tr (c5.mono (fun b q => .inl (by omega))), ?_⟩
    · rw [if_pos e0, e5]
      show Option.bind (D62 m5 (nI t)) _ = _
      rw [d62 R5 (by omega), dpk_o (fun c hc => by omega), tgB_e]
      show Option.bind (gB (tgB f t)) _ = _
      rw [tgB_g]
      rfl
    · unfold tgF
      rw [if_pos q]
      exact R5
  · have e0 : tgB f t = nI 1 := if_neg q
    refine ⟨K, ?_, c1.mono (fun b q => .inl (by omega)), ?_⟩
    · rw [if_neg (by rw [e0]; decide)]
      show Option.bind (D62 K (nI t)) _ = _
      rw [d62 R1 (by omega), tgB_e]
      show Option.bind (gB (tgB f t)) _ = _
      rw [tgB_g]
      rfl
    · unfold tgF
      rw [if_neg q]
      exact R1
theorem d177 (hf : rI m 131 = f) (V : rv f) {t : Nat} (ht : t < sN f) : ∃ m', D177 m (nI t) = some (tgB f t, m') ∧ chg (fun b => b = 131) m m' ∧ rI m' 131 = tgF f t := by
  have h24 := V.s24
  unfold D177
  rw [d157 hf (by omega)]
  have hv2 : (if (if f (1 + 4 * t + 3) = nI 1 then nI 1 else nI 0) = nI 0 then some (nI 1) else some (nI 0)) = some (tgB f t) := by
    unfold tgB
    by_cases q : f (1 + 4 * t + 3) = nI 1
    · rw [if_pos q, if_pos q, if_neg (by decide)]
    · rw [if_neg q, if_neg q, if_pos rfl]
  show ∃ m', Option.bind (if (if f (1 + 4 * t + 3) = nI 1 then nI 1 else nI 0) = nI 0 then some (nI 1) else some (nI 0)) _ = _ ∧ _
  rw [hv2, Option.bind_some, nI_mul, nI_add, nI_add, sI_n (by omega) (by omega), Option.bind_some]
  have r1 : rI (wI m 131 (1 + 4 * t + 3) (tgB f t)) 131 = tgG f t := by
    rw [rI_ws, hf]
    rfl
  have c1 : chg (fun b => b = 131) m (wI m 131 (1 + 4 * t + 3) (tgB f t)) := chg.wI chg.rf rfl
  generalize wI m 131 (1 + 4 * t + 3) (tgB f t) = K at r1 c1
  have hend : ∀ m', rI m' 131 = tgF f t → chg (fun b => b = 131) m m' → ∃ r, ((D157 m' (nI t)).bind fun (x12 : Int32) => (gB x12).bind fun (b13 : Int32) => some (b13, m')) = some r ∧ r.1 = tgB f t ∧ chg (fun b => b = 131) m r.2 ∧ rI r.2 131 = tgF f t := by
    intro m' r c
    refine ⟨(tgB f t, m'), ?_, rfl, c, r⟩
    rw [d157 r (by omega), tgF_o (fun c hc => by omega), tgB_e, Option.bind_some, tgB_g]
    rfl
  have hl := lpx (F := 3000) (s0 := (nI 0, K)) (f := fun (s4 : Int32 × dM) => if (nI 4) ≤ s4.1 then some (Sum.inr (α := Int32 × dM) s4.2) else (D150 s4.2 s4.1 (nI 2)).bind fun (x6 : Int32) => Option.bind ((if x6 = nI t then (D157 s4.2 (nI t)).bind fun (x8 : Int32) => if x8 = (nI 0) then some (-1) else (D150 s4.2 s4.1 (nI 2)).bind fun (x9 : Int32) => some x9 else (D150 s4.2 s4.1 (nI 2)).bind fun (x10 : Int32) => some x10) : Option (Int32)) fun (v7 : Int32) => (D151 s4.2 s4.1 (nI 2) v7).bind fun (r11 : dM) => some (.inl (s4.1 + (nI 1), r11)))
    (K := fun (v5 : dM) => (D157 v5 (nI t)).bind fun (x12 : Int32) => (gB x12).bind fun (b13 : Int32) => some (b13, v5)) (Q := fun r => r.1 = tgB f t ∧ chg (fun b => b = 131) m r.2 ∧ rI r.2 131 = tgF f t)
    (fun k z => z.1 = nI k ∧ chg (fun b => b = 131) m z.2 ∧ rI z.2 131 = if f (1 + 4 * t + 3) = nI 1 then dpk (tgG f t) (nI t) k else tgG f t) (fun m' => chg (fun b => b = 131) m m' ∧ rI m' 131 = tgF f t) 4 (by omega) ⟨rfl, c1, by rw [dpk_0, r1]; split <;> rfl⟩ ?_ ?_ (fun m' h => hend m' h.2 h.1)
  · obtain ⟨⟨x, m'⟩, e, h1, h2, h3⟩ := hl
    replace h1 : x = tgB f t := h1
    subst h1
    exact ⟨m', e, h2, h3⟩
  · rintro k ⟨x, m2⟩ hk ⟨hx, c2, r2⟩
    replace hx : x = nI k := hx
    replace c2 : chg (fun b => b = 131) m m2 := c2
    replace r2 : rI m2 131 = if f (1 + 4 * t + 3) = nI 1 then dpk (tgG f t) (nI t) k else tgG f t := r2
    subst hx
    have eo : rI m2 131 (97 + 5 * k + 2) = f (97 + 5 * k + 2) := by
      rw [r2]
      split
      · rw [dpk_o (fun c hc => by omega), tgG_o (by omega)]
      · rw [tgG_o (by omega)]
    have es : rI m2 131 (1 + 4 * t + 3) = tgB f t := by
      rw [r2]
      split
      · rw [dpk_o (fun c hc => by omega), tgG_s]
      · rw [tgG_s]
    have hv : (if f (97 + 5 * k + 2) = nI t then (D157 m2 (nI t)).bind fun (x8 : Int32) => if x8 = (nI 0) then some (-1) else (some (f (97 + 5 * k + 2))).bind fun (x9 : Int32) => some x9 else (some (f (97 + 5 * k + 2))).bind fun (x10 : Int32) => some x10) = some (if f (1 + 4 * t + 3) = nI 1 ∧ f (97 + 5 * k + 2) = nI t then -1 else f (97 + 5 * k + 2)) := by
      rw [d157 rfl (by omega), es]
      unfold tgB
      by_cases q1 : f (97 + 5 * k + 2) = nI t
      · by_cases q2 : f (1 + 4 * t + 3) = nI 1
        · simp only [q1, q2, if_true, and_self, Option.bind_some, n01, if_false]
        · simp only [q1, q2, if_true, false_and, if_false, Option.bind_some, n10]
      · rw [if_neg q1, if_neg (fun z => q1 z.2)]
        rfl
    refine .inl ⟨(nI k + nI 1, wI m2 131 (97 + 5 * k + 2) (if f (1 + 4 * t + 3) = nI 1 ∧ f (97 + 5 * k + 2) = nI t then -1 else f (97 + 5 * k + 2))), ?_, nI_add k 1, chg.wI c2 rfl, ?_⟩
    · show (if nI 4 ≤ nI k then _ else Option.bind (D150 m2 (nI k) (nI 2)) _) = _
      rw [if_neg (nI_ge hk (by omega)), d150 (f := rI m2 131) rfl hk (by omega), eo, Option.bind_some]
      show Option.bind (if f (97 + 5 * k + 2) = nI t then (D157 m2 (nI t)).bind fun (x8 : Int32) => if x8 = (nI 0) then some (-1) else (some (f (97 + 5 * k + 2))).bind fun (x9 : Int32) => some x9 else (some (f (97 + 5 * k + 2))).bind fun (x10 : Int32) => some x10) _ = _
      rw [hv, Option.bind_some, d151 hk (by omega)]
      rfl
    · show rI (wI m2 131 (97 + 5 * k + 2) _) 131 = _
      rw [rI_ws, r2]
      by_cases q2 : f (1 + 4 * t + 3) = nI 1
      · simp only [q2, if_true, true_and]
        have := dpk_s (g := tgG f t) (x := nI t) (k := k)
        rw [tgG_o (by omega)] at this
        exact this
      · simp only [q2, if_false, false_and]
        have := upd_self (f := tgG f t) (x := 97 + 5 * k + 2)
        rw [tgG_o (by omega)] at this
        exact this
  · rintro ⟨x, m2⟩ ⟨hx, c2, r2⟩
    replace hx : x = nI 4 := hx
    subst hx
    exact ⟨m2, (by show (if nI 4 ≤ nI 4 then _ else _) = _; rw [if_pos (nI_le (Nat.le_refl 4) (by omega))]), c2, r2⟩
theorem k1 (h : INV m) (hi : i + 4 < X.1) (hX : X.1 ≤ 2560) : OK m (C1 X m (nI i)) := by
  unfold C1
  simp only [gx (i := i) (j := 1) (by omega) hX, Option.bind_some]
  refine lkB (A := D246 m (X.2 (i + 1))) (B := fun m1 => D179 m1 (X.2 (i + 1))) h (fun s hC hM => ?_)
  generalize X.2 (i + 1) = p1
  have R := hC.R
  have V := hC.V
  have h24 := V.s24
  rcases sm_or (n := sN s.1) (by omega) p1 with ⟨t, ht, rfl⟩ | hb
  · obtain ⟨m1, e1, I1, c1⟩ := hC.sv
    have R1 : RC m1 1 s.1 := I1.R
    obtain ⟨m2, e2, c2, R2⟩ := d47 R1 V ht
    have I2 := I1.nowc c2 R2 (tg_rv V ht)
    refine ⟨_, 0, _, _, g_B (x := tgB s.1 t) (m1 := m2) ?_, co_n c1 c2 I2, fun m3 hM3 => ?_⟩
    · show D71 m (nI t) = _
      unfold D71
      rw [d126 R V ht]
      show Option.bind (D131 m) _ = _
      rw [e1]
      show Option.bind (D47 m1 (nI t)) _ = _
      rw [e2]
      show Option.bind (gB (tgB s.1 t)) _ = _
      rw [tgB_g]
      rfl
    · obtain ⟨mB, eB, IB, cB, tB⟩ := (hM3.w7 (v := nI 0)).sv hC.n5
      have hf2 : rI mB 131 = s.1 := IB.e1
      obtain ⟨mC, eC, cC, rC⟩ := d177 hf2 V ht
      have cC2 : chg rowM mB mC := cC.mono (fun b q => .inl q)
      refine ⟨(tgB s.1 t, mC), ?_, mb_n rfl cB tB cC2 (IB.nw cC2 rC)⟩
      show D179 m3 (nI t) = _
      unfold D179
      rw [d147 hM3.e1 V.s0 V.s24 ht]
      show (if rI (wI m3 130 7 (nI 0)) 130 7 ≤ nI 0 then Option.bind (D149 (wI m3 130 7 (nI 0))) _ else some (nI 0, wI m3 130 7 (nI 0))) = _
      rw [r7, if_pos (nI_le (Nat.le_refl 0) (by omega)), eB, Option.bind_some, eC, Option.bind_some, tgB_g]
      rfl
  · refine ⟨s, 1, 0, (nI 1, bump m), ?_, co_x hC chv.rf rfl (by omega) (by omega), fun m1 hM1 => ⟨(nI 0, wI m1 130 7 (nI 1)), ?_, mb_x hM1 (by omega) t_v r7⟩⟩
    · refine g_X (j := 0) (m1 := bump m) ?_
      show D71 m p1 = _
      unfold D71
      rw [d126b R V hb]
      rfl
    · show D179 m1 p1 = _
      unfold D179
      rw [d147b hM1.e1 V.s0 V.s24 hb]
      rfl
end TG
