/-! CHANGES: streets come, close and open -/
section AS
variable {m m1 m2 : dM} {s : gS} {f g : Nat → Int32} {X : Nat × (Nat → Int32)} {i : Nat}
/-- a street comes -/
def asF (f : Nat → Int32) (p q v : Int32) : Nat → Int32 := upd (upd (upd (upd (upd f (1 + 4 * sN f) p) (1 + 4 * sN f + 1) q) (1 + 4 * sN f + 2) v) (1 + 4 * sN f + 3) (nI 1)) 0 (nI (sN f + 1))
section AS1
variable {p q v : Int32}
theorem as_o {x : Nat} (h0 : x ≠ 0) (h : ¬ (1 + 4 * sN f ≤ x ∧ x < 1 + 4 * sN f + 4)) : asF f p q v x = f x := by
  unfold asF
  rw [upd_n h0, upd_n (by omega), upd_n (by omega), upd_n (by omega), upd_n (by omega)]
theorem as_n : asF f p q v 0 = nI (sN f + 1) := upd_s
theorem as_0 : asF f p q v (1 + 4 * sN f) = p := by
  unfold asF
  rw [upd_n (by omega), upd_n (by omega), upd_n (by omega), upd_n (by omega), upd_s]
theorem as_1 : asF f p q v (1 + 4 * sN f + 1) = q := by
  unfold asF
  rw [upd_n (by omega), upd_n (by omega), upd_n (by omega), upd_s]
theorem as_2 : asF f p q v (1 + 4 * sN f + 2) = v := by
  unfold asF
  rw [upd_n (by omega), upd_n (by omega), upd_s]
theorem as_3 : asF f p q v (1 + 4 * sN f + 3) = nI 1 := by
  unfold asF
  rw [upd_n (by omega), upd_s]
theorem sN_as (h : sN f < 24) : sN (asF f p q v) = sN f + 1 := by
  unfold sN
  rw [show asF f p q v 0 = nI (sN f + 1) from as_n, nI_clamp (by omega)]
  rfl
theorem as_rv (V : rv f) (h : sN f < 24) (hp : sm p 10) (hq : sm q 10) (hn : p ≠ q) : rv (asF f p q v) := by
  have e : ∀ x, 97 ≤ x → asF f p q v x = f x := fun x q => as_o (by omega) (by omega)
  have es : ∀ t k, t ≠ sN f → k < 4 → asF f p q v (1 + 4 * t + k) = f (1 + 4 * t + k) := fun t k h1 h2 => as_o (by omega) (by omega)
  refine ⟨⟨?_, ?_, fun t ht => ?_, fun t h1 h2 => ?_⟩, ⟨fun c hc => ?_, fun c hc b hb => ?_⟩, V.2.2.1.cg (fun x q _ => e x (by omega)), V.2.2.2.cg V.p8 (fun x q _ _ _ => e x (by omega))⟩
  · rw [as_n, sN_as h]
  · rw [sN_as h]; omega
  · rw [sN_as h] at ht
    by_cases w : t = sN f
    · subst w
      rw [as_0, as_1]
      exact ⟨hp, hq, hn⟩
    · rw [show asF f p q v (1 + 4 * t) = f (1 + 4 * t) from es t 0 w (by omega), es t 1 w (by omega)]
      exact V.1.2.2.1 t (by omega)
  · rw [sN_as h] at h1
    rw [es t 2 (by omega) (by omega)]
    exact V.1.2.2.2 t (by omega) h2
  · rw [e (97 + 5 * c + 0) (by omega), e (97 + 5 * c + 1) (by omega), e (97 + 5 * c + 2) (by omega), sN_as h]
    obtain ⟨q1, q2, q3⟩ := V.2.1.1 c hc
    refine ⟨q1, q2, ?_⟩
    rcases q3 with hv | ⟨t, z1, z2, z3, z4⟩
    · exact .inl hv
    · refine .inr ⟨t, by omega, z2, ?_, ?_⟩
      · rw [show asF f p q v (1 + 4 * t) = f (1 + 4 * t) from es t 0 (by omega) (by omega)]; exact z3
      · rw [es t 3 (by omega) (by omega)]; exact z4
  · rw [e (97 + 5 * c + 0) (by omega), e (97 + 5 * b + 0) (by omega)]
    exact V.2.1.2 c hc b hb
end AS1
theorem d61 (R : RC m 1 f) (V : rv f) (h : sN f < 24) {p q v : Int32} (hv : v = nI 0 ∨ v = nI 1) : ∃ m', D61 m p q v = some (nI (sN f), m') ∧ chg nowC m m' ∧ RC m' 1 (asF f p q v) := by
  unfold D61
  rw [R.sc, V.s0, if_pos (nI_lt h (by omega)), sI_n h (by omega), Option.bind_some, sI_n h (by omega), Option.bind_some]
  have c2 : chg (fun b => b = 3 ∨ b = 4) m (wI (wI m 3 (sN f) p) 4 (sN f) q) := chg.wI (chg.wI chg.rf (.inl rfl)) (.inr rfl)
  have r3 : rI (wI (wI m 3 (sN f) p) 4 (sN f) q) 3 = upd (rI m 3) (sN f) p := by rw [rI_wn (by decide), rI_ws]
  have r4 : rI (wI (wI m 3 (sN f) p) 4 (sN f) q) 4 = upd (rI m 4) (sN f) q := by rw [rI_ws, rI_wn (by decide)]
  generalize wI (wI m 3 (sN f) p) 4 (sN f) q = K at c2 r3 r4
  have r2 : rI K 2 = rI m 2 := c2.1 2 (by omega)
  have hK : ∃ K3, (if v = nI 0 then some K else (fI K 2 2 ((rI K 2 2) ||| ((nI 1) <<< (nI (sN f) &&& nI 31)))).bind fun (m4 : dM) => some m4) = some K3 ∧ chg (fun b => b = 2) K K3 ∧ (∀ j, j ≠ 2 → rI K3 2 j = rI m 2 j) ∧ ∀ t, t < 24 → bt (rI K3 2 2) t = if t = sN f then decide (v = nI 1) else bt (rI m 2 2) t := by
    rcases hv with rfl | rfl
    · refine ⟨K, if_pos rfl, chg.rf, fun j _ => by rw [r2], fun t ht => ?_⟩
      rw [r2]
      by_cases w : t = sN f
      · rw [if_pos w, w, R.nb h]
        have := V.1.2.2.2 (sN f) (Nat.le_refl _) h
        rw [decide_eq_false this]
        rfl
      · rw [if_neg w]
    · refine ⟨wI K 2 2 ((rI K 2 2) ||| ((nI 1) <<< (nI (sN f) &&& nI 31))), by rw [if_neg (by decide)]; rfl, chg.wI chg.rf rfl, fun j hj => by rw [rI_ws, upd_n hj, r2], fun t ht => ?_⟩
      rw [rI_ws, upd_s, b_or, b_one (by omega) (by omega), r2]
      by_cases w : t = sN f
      · rw [if_pos w, decide_eq_true w, Bool.or_true]
        rfl
      · rw [if_neg w, decide_eq_false w, Bool.or_false]
  obtain ⟨K3, e3, c3, j3, b3⟩ := hK
  rw [e3, Option.bind_some, fI_e, Option.bind_some, fI_e, Option.bind_some]
  have h3 : rI K3 3 = upd (rI m 3) (sN f) p := (c3.1 3 (by omega)).trans r3
  have h4 : rI K3 4 = upd (rI m 4) (sN f) q := (c3.1 4 (by omega)).trans r4
  have cA : chg (fun b => 2 ≤ b ∧ b ≤ 4) m K3 := (c2.mono (fun b q => by omega)).tr (c3.mono (fun b q => by omega))
  refine ⟨_, rfl, chg.wI (chg.wI (cA.mono (fun b q => .inl (by omega))) (.inl (by omega))) (.inl (by omega)), R.mks (chg.wI (chg.wI cA (by omega)) (by omega)) (fun x q => as_o (by omega) (by omega)) ⟨?_, fun t ht => ?_⟩ V⟩
  · show rI _ 2 4 = _
    rw [rI_ws, upd_s, rI_ws, upd_n (by decide), j3 4 (by decide), R.sc, V.s0, nI_add, as_n]
  · show rI _ 3 t = _ ∧ rI _ 4 t = _ ∧ bt (rI _ 2 2) t = _ ∧ bt (rI _ 2 3) t = _
    rw [rI_wn (show (3 : Nat) ≠ 2 by decide), rI_wn (show (3 : Nat) ≠ 2 by decide), h3, rI_wn (show (4 : Nat) ≠ 2 by decide), rI_wn (show (4 : Nat) ≠ 2 by decide), h4, rI_ws, upd_n (show 2 ≠ 4 by decide), upd_n (show 3 ≠ 4 by decide), rI_ws, upd_n (show 2 ≠ 3 by decide), upd_s, b3 t ht, b_or, b_one (by omega) (by omega), j3 3 (by decide), R.ob ht]
    by_cases w : t = sN f
    · subst w
      rw [upd_s, upd_s, as_0, as_1, as_2, as_3, if_pos rfl]
      refine ⟨rfl, rfl, rfl, ?_⟩
      rw [decide_eq_true (rfl : sN f = sN f), Bool.or_true]
      rfl
    · have es : ∀ k, k < 4 → asF f p q v (1 + 4 * t + k) = f (1 + 4 * t + k) := fun k h2 => as_o (by omega) (by omega)
      rw [upd_n w, upd_n w, show asF f p q v (1 + 4 * t) = f (1 + 4 * t) from es 0 (by omega), es 1 (by omega), es 2 (by omega), es 3 (by omega), if_neg w, decide_eq_false w, Bool.or_false]
      exact ⟨R.fr ht, R.to ht, R.nb ht, rfl⟩
/-- a street with this beginning and this end -/
def mtB (f : Nat → Int32) (p q : Int32) (t : Nat) : Bool := decide (f (1 + 4 * t) = p ∧ f (1 + 4 * t + 1) = q)
theorem d60 (R : RC m 1 f) (V : rv f) {p q : Int32} : ∃ x, D60 m p q = some x ∧ (x = -1 ↔ anyN (mtB f p q) (sN f) = false) := by
  have h24 := V.s24
  unfold D60
  refine lp_inv (fun k t => t = nI k ∧ anyN (mtB f p q) k = false) (fun x => x = -1 ↔ anyN (mtB f p q) (sN f) = false) (sN f) (by omega) ⟨rfl, rfl⟩ ?_ ?_
  · rintro k t hk ⟨rfl, ho⟩
    show (∃ s', (if rI m 2 4 ≤ nI k then _ else Option.bind (gI m 3 24 (nI k)) _) = _ ∧ _) ∨ (∃ b, (if rI m 2 4 ≤ nI k then _ else Option.bind (gI m 3 24 (nI k)) _) = _ ∧ _)
    rw [R.sc, V.s0, if_neg (nI_ge hk (by omega)), gI_n (by omega) (by omega), gI_n (by omega) (by omega), R.fr (by omega), R.to (by omega)]
    show (∃ s', (if f (1 + 4 * k) = p then (if f (1 + 4 * k + 1) = q then _ else _) else _) = _ ∧ _) ∨ (∃ b, (if f (1 + 4 * k) = p then (if f (1 + 4 * k + 1) = q then _ else _) else _) = _ ∧ _)
    by_cases q1 : f (1 + 4 * k) = p
    · by_cases q2 : f (1 + 4 * k + 1) = q
      · rw [if_pos q1, if_pos q2]
        refine .inr ⟨nI k, rfl, ?_⟩
        have : anyN (mtB f p q) (sN f) = true := an_t _ k hk (decide_eq_true ⟨q1, q2⟩)
        rw [this, nI_m1 (by omega)]
        simp
      · rw [if_pos q1, if_neg q2]
        refine .inl ⟨nI k + nI 1, rfl, nI_add k 1, ?_⟩
        rw [an4, ho, Bool.false_or]
        exact decide_eq_false (fun z => q2 z.2)
    · rw [if_neg q1]
      refine .inl ⟨nI k + nI 1, rfl, nI_add k 1, ?_⟩
      rw [an4, ho, Bool.false_or]
      exact decide_eq_false (fun z => q1 z.1)
  · rintro t ⟨rfl, ho⟩
    refine ⟨-1, ?_, by rw [ho]; simp⟩
    show (if rI m 2 4 ≤ nI (sN f) then _ else _) = _
    rw [R.sc, V.s0, if_pos (nI_le (Nat.le_refl _) (by omega))]
theorem k0 (h : INV m) (hi : i + 4 < X.1) (hX : X.1 ≤ 2560) : OK m (C0 X m (nI i)) := by
  unfold C0
  have hv3 : (if X.2 (i + 3) = nI 0 then some (nI 0) else some (nI 1)) = some (if X.2 (i + 3) = nI 0 then nI 0 else nI 1) := iff_some
  simp only [gx (i := i) (j := 1) (by omega) hX, gx (i := i) (j := 2) (by omega) hX, gx (i := i) (j := 3) (by omega) hX, hv3, Option.bind_some]
  refine lkI (A := D245 m (X.2 (i + 1)) (X.2 (i + 2)) (if X.2 (i + 3) = nI 0 then nI 0 else nI 1)) (B := fun m1 => D178 m1 (X.2 (i + 1)) (X.2 (i + 2)) (if X.2 (i + 3) = nI 0 then nI 0 else nI 1)) h (fun s hC hM => ?_)
  have hv : (if X.2 (i + 3) = nI 0 then nI 0 else nI 1) = nI 0 ∨ (if X.2 (i + 3) = nI 0 then nI 0 else nI 1) = nI 1 := by
    by_cases q : X.2 (i + 3) = nI 0
    · rw [if_pos q]; exact .inl rfl
    · rw [if_neg q]; exact .inr rfl
  generalize X.2 (i + 1) = p1
  generalize X.2 (i + 2) = p2
  generalize (if X.2 (i + 3) = nI 0 then nI 0 else nI 1) = v at hv
  have R := hC.R
  have V := hC.V
  have h24 := V.s24
  rcases sm_or (n := 10) (by omega) p1 with ⟨a, ha, rfl⟩ | hb
  · rcases sm_or (n := 10) (by omega) p2 with ⟨b, hb, rfl⟩ | hb
    · have hx : ∀ k, 0 < k → k < 4 → D245 m (nI a) (nI b) v = some (nI k, bump m) → (∀ m1, IM m1 s → D178 m1 (nI a) (nI b) v = some (nI 0, wI (wI m1 130 7 (nI 0)) 130 7 (nI k))) → ∃ s' k v1 r1, D245 m (nI a) (nI b) v = some r1 ∧ CO m s' k v1 r1 ∧ ∀ m1, IM m1 s → ∃ r2, D178 m1 (nI a) (nI b) v = some r2 ∧ MO m1 s' k v1 r2 := fun k hk h4 e1 e2 => ⟨s, k, 0, _, e1, co_x hC chv.rf rfl hk h4, fun m1 hM1 => ⟨_, e2 m1 hM1, mo_x hM1 hk t_x r7⟩⟩
      have hc0 : D70 m (nI a) (nI b) v = if nI a = nI b then some (.inr 1, bump m) else if (nI 24) ≤ (rI m 2 4) then some (.inr 2, bump m) else (D60 m (nI a) (nI b)).bind fun (x7 : Int32) => if x7 = (-1) then (D131 m).bind fun (r8 : dM) => (D61 r8 (nI a) (nI b) v).bind fun (r9 : Int32 × dM) => some (.inl r9.1, r9.2) else some (.inr 2, bump m) := by
        unfold D70
        rw [d123 ha, d123 hb]
        rfl
      by_cases q0 : nI a = nI b
      · rw [if_pos q0] at hc0
        refine hx 2 (by omega) (by omega) (g_X (j := 1) hc0) (fun m1 _ => ?_)
        unfold D178
        show Option.bind (D145 (nI a)) _ = _
        rw [d145 ha]
        show Option.bind (D145 (nI b)) _ = _
        rw [d145 hb]
        show (if nI a = nI b then _ else _) = _
        rw [if_pos q0]
        rfl
      · rw [if_neg q0, R.sc, V.s0] at hc0
        obtain ⟨x, ex, hx60⟩ := d60 R V (p := nI a) (q := nI b)
        -- the reference
        have hm : ∀ m1, IM m1 s → ∃ w, D178 m1 (nI a) (nI b) v = (if w = nI 0 then some (nI 0, wI (wI m1 130 7 (nI 0)) 130 7 (nI 3)) else (D149 (wI m1 130 7 (nI 0))).bind fun (r14 : dM) => (sI r14 131 299 ((nI 1) + ((nI 4) * (rI r14 131 0))) (nI a)).bind fun (m15 : dM) => (sI m15 131 299 (((nI 1) + ((nI 4) * (rI r14 131 0))) + (nI 1)) (nI b)).bind fun (m16 : dM) => Option.bind ((if v = (nI 0) then some (nI 0) else some (nI 1)) : Option (Int32)) fun (v17 : Int32) => (sI m16 131 299 (((nI 1) + ((nI 4) * (rI r14 131 0))) + (nI 2)) v17).bind fun (m18 : dM) => (sI m18 131 299 (((nI 1) + ((nI 4) * (rI r14 131 0))) + (nI 3)) (nI 1)).bind fun (m19 : dM) => (sI m19 131 299 (nI 0) ((rI m19 131 0) + (nI 1))).bind fun (m20 : dM) => some ((rI m20 131 0) - (nI 1), m20)) ∧ w = bI (decide (sN s.1 < 24) && !anyN (mtB s.1 (nI a) (nI b)) (sN s.1)) := by
          intro m1 hM1
          have hf1 : rI (wI m1 130 7 (nI 0)) 131 = s.1 := hM1.f7
          unfold D178
          show ∃ w, Option.bind (D145 (nI a)) _ = _ ∧ _
          rw [d145 ha]
          show ∃ w, Option.bind (D145 (nI b)) _ = _ ∧ _
          rw [d145 hb]
          show ∃ w, (if nI a = nI b then _ else Option.bind (if nI 24 ≤ rI (wI m1 130 7 (nI 0)) 131 0 then some (nI 0) else some (nI 1)) _) = _ ∧ _
          rw [if_neg q0, hf1, V.s0, iff_some]
          have k := lp_inv (F := 3000) (s0 := ((if nI 24 ≤ nI (sN s.1) then nI 0 else nI 1), nI 0)) (f := fun (s8 : Int32 × Int32) => if (rI (wI m1 130 7 (nI 0)) 131 0) ≤ s8.2 then some (Sum.inr (α := Int32 × Int32) s8.1) else Option.bind ((if s8.1 = (nI 0) then some (nI 0) else (D154 (wI m1 130 7 (nI 0)) s8.2).bind fun (x11 : Int32) => if x11 = nI a then (D155 (wI m1 130 7 (nI 0)) s8.2).bind fun (x12 : Int32) => if x12 = nI b then some (nI 0) else some (nI 1) else some (nI 1)) : Option (Int32)) fun (v10 : Int32) => some (.inl (v10, s8.2 + (nI 1))))
            (fun k t => t.1 = bI (decide (sN s.1 < 24) && !anyN (mtB s.1 (nI a) (nI b)) k) ∧ t.2 = nI k) (fun w => w = bI (decide (sN s.1 < 24) && !anyN (mtB s.1 (nI a) (nI b)) (sN s.1))) (sN s.1) (by omega) ⟨?_, rfl⟩ ?_ ?_
          · obtain ⟨w, e, hw⟩ := k
            refine ⟨w, ?_, hw⟩
            show Option.bind (lp _ _ _) _ = _
            rw [hf1, V.s0] at e
            rw [e]
            rfl
          · show (if nI 24 ≤ nI (sN s.1) then nI 0 else nI 1) = bI (decide (sN s.1 < 24) && true)
            by_cases q : sN s.1 < 24
            · rw [if_neg (nI_ge q (by omega)), decide_eq_true q]
              rfl
            · rw [if_pos (nI_le (by omega) (by omega)), decide_eq_false q]
              rfl
          · rintro k ⟨y, t⟩ hk ⟨hy, ht⟩
            replace hy : y = bI (decide (sN s.1 < 24) && !anyN (mtB s.1 (nI a) (nI b)) k) := hy
            replace ht : t = nI k := ht
            subst hy ht
            refine .inl ⟨(bI (decide (sN s.1 < 24) && !anyN (mtB s.1 (nI a) (nI b)) (k + 1)), nI k + nI 1), ?_, rfl, nI_add k 1⟩
            show (if rI (wI m1 130 7 (nI 0)) 131 0 ≤ nI k then _ else Option.bind (if bI (decide (sN s.1 < 24) && !anyN (mtB s.1 (nI a) (nI b)) k) = nI 0 then some (nI 0) else Option.bind (D154 (wI m1 130 7 (nI 0)) (nI k)) _) _) = _
            rw [hf1, V.s0, if_neg (nI_ge hk (by omega)), d154 hf1 (by omega)]
            show Option.bind (if bI (decide (sN s.1 < 24) && !anyN (mtB s.1 (nI a) (nI b)) k) = nI 0 then some (nI 0) else (if s.1 (1 + 4 * k) = nI a then Option.bind (D155 (wI m1 130 7 (nI 0)) (nI k)) _ else some (nI 1))) _ = _
            rw [d155 hf1 (by omega), an4]
            show Option.bind (if bI (decide (sN s.1 < 24) && !anyN (mtB s.1 (nI a) (nI b)) k) = nI 0 then some (nI 0) else (if s.1 (1 + 4 * k) = nI a then (if s.1 (1 + 4 * k + 1) = nI b then some (nI 0) else some (nI 1)) else some (nI 1))) _ = _
            have hy : (if bI (decide (sN s.1 < 24) && !anyN (mtB s.1 (nI a) (nI b)) k) = nI 0 then some (nI 0) else (if s.1 (1 + 4 * k) = nI a then (if s.1 (1 + 4 * k + 1) = nI b then some (nI 0) else some (nI 1)) else some (nI 1))) = some (bI (decide (sN s.1 < 24) && !(anyN (mtB s.1 (nI a) (nI b)) k || mtB s.1 (nI a) (nI b) k))) := by
              cases z1 : decide (sN s.1 < 24) with
              | false => rfl
              | true =>
                cases z2 : anyN (mtB s.1 (nI a) (nI b)) k with
                | true => rfl
                | false =>
                  rw [if_neg (by decide)]
                  unfold mtB
                  by_cases z3 : s.1 (1 + 4 * k) = nI a
                  · by_cases z4 : s.1 (1 + 4 * k + 1) = nI b
                    · rw [if_pos z3, if_pos z4, decide_eq_true ⟨z3, z4⟩]
                      rfl
                    · rw [if_pos z3, if_neg z4, decide_eq_false (fun z => z4 z.2)]
                      rfl
                  · rw [if_neg z3, decide_eq_false (fun z => z3 z.1)]
                    rfl
            rw [hy]
            rfl
          · rintro ⟨y, t⟩ ⟨hy, ht⟩
            replace ht : t = nI (sN s.1) := ht
            subst ht
            refine ⟨y, ?_, hy⟩
            show (if rI (wI m1 130 7 (nI 0)) 131 0 ≤ nI (sN s.1) then _ else _) = _
            rw [hf1, V.s0, if_pos (nI_le (Nat.le_refl _) (by omega))]
        by_cases q1 : sN s.1 < 24 ∧ anyN (mtB s.1 (nI a) (nI b)) (sN s.1) = false
        · have V2 : rv (asF s.1 (nI a) (nI b) v) := as_rv V q1.1 (sm_nI ha) (sm_nI hb) q0
          obtain ⟨m1, e1, I1, c1⟩ := hC.sv
          have R1 : RC m1 1 s.1 := I1.R
          obtain ⟨m3, e3, c3, R3⟩ := d61 R1 V q1.1 (p := nI a) (q := nI b) hv
          rw [if_neg (nI_ge q1.1 (by omega)), ex, Option.bind_some, if_pos (hx60.mpr q1.2), e1, Option.bind_some, e3, Option.bind_some] at hc0
          have I2 := I1.nowc c3 R3 V2
          refine ⟨_, 0, _, _, g_I hc0, co_n c1 c3 I2, fun m2 hM2 => ?_⟩
          obtain ⟨w, ew, hw⟩ := hm m2 hM2
          obtain ⟨mB, eB, IB, cB, tB⟩ := (hM2.w7 (v := nI 0)).sv hC.n5
          have hf2 : rI mB 131 = s.1 := IB.e1
          rw [decide_eq_true q1.1, q1.2] at hw
          have hv17 : (if v = nI 0 then some (nI 0) else some (nI 1)) = some v := by
            rcases hv with rfl | rfl <;> rfl
          have h0 : nI 1 + nI 4 * rI mB 131 0 = nI (1 + 4 * sN s.1) := by rw [hf2, V.s0, nI_mul, nI_add]
          refine ⟨(nI (sN s.1), wI (wI (wI (wI (wI mB 131 (1 + 4 * sN s.1) (nI a)) 131 (1 + 4 * sN s.1 + 1) (nI b)) 131 (1 + 4 * sN s.1 + 2) v) 131 (1 + 4 * sN s.1 + 3) (nI 1)) 131 0 (nI (sN s.1 + 1))), ?_, mo_n rfl cB tB (chg.wI (chg.wI (chg.wI (chg.wI (chg.wI chg.rf (.inl rfl)) (.inl rfl)) (.inl rfl)) (.inl rfl)) (.inl rfl)) (IB.nw (chg.wI (chg.wI (chg.wI (chg.wI (chg.wI chg.rf (.inl rfl)) (.inl rfl)) (.inl rfl)) (.inl rfl)) (.inl rfl)) (by simp only [rI_ws, hf2]; rfl))⟩
          show D178 m2 (nI a) (nI b) v = _
          rw [ew, hw, if_neg (by decide), eB, Option.bind_some, h0, sI_n (by omega) (by omega), Option.bind_some, nI_add, sI_n (by omega) (by omega), Option.bind_some, hv17, Option.bind_some, nI_add, sI_n (by omega) (by omega), Option.bind_some, nI_add, sI_n (by omega) (by omega), Option.bind_some]
          rw [rI_ws, upd_n (by omega), rI_ws, upd_n (by omega), rI_ws, upd_n (by omega), rI_ws, upd_n (by omega), hf2, V.s0, nI_add, sI_n (by omega) (by omega), Option.bind_some, rI_ws, upd_s, nI_sub (by omega)]
          rfl
        · have hc1 : D70 m (nI a) (nI b) v = some (.inr 2, bump m) := by
            rw [hc0]
            by_cases q : sN s.1 < 24
            · have q2 : ¬ anyN (mtB s.1 (nI a) (nI b)) (sN s.1) = false := fun z => q1 ⟨q, z⟩
              rw [if_neg (nI_ge q (by omega)), ex, Option.bind_some, if_neg (fun z => q2 (hx60.mp z))]
            · rw [if_pos (nI_le (by omega) (by omega))]
          refine hx 3 (by omega) (by omega) (g_X (j := 2) hc1) (fun m2 hM2 => ?_)
          obtain ⟨w, ew, hw⟩ := hm m2 hM2
          have hw0 : w = nI 0 := by
            rw [hw]
            by_cases q : sN s.1 < 24
            · cases q2 : anyN (mtB s.1 (nI a) (nI b)) (sN s.1) with
              | true => rw [Bool.not_true, Bool.and_false]; rfl
              | false => exact absurd ⟨q, q2⟩ q1
            · rw [decide_eq_false q, Bool.false_and]
              rfl
          rw [ew, if_pos hw0]
    · refine ⟨s, 1, 0, (nI 1, bump m), ?_, co_x hC chv.rf rfl (by omega) (by omega), fun m1 hM1 => ⟨(nI 0, wI (wI m1 130 7 (nI 0)) 130 7 (nI 1)), ?_, mo_x hM1 (by omega) t_x r7⟩⟩
      · refine g_X (j := 0) (m1 := bump m) ?_
        unfold D70
        rw [d123 ha, d123b hb]
        rfl
      · show D178 m1 (nI a) p2 v = _
        unfold D178
        show Option.bind (D145 (nI a)) _ = _
        rw [d145 ha]
        show Option.bind (D145 p2) _ = _
        rw [d145b hb]
        rfl
  · refine ⟨s, 1, 0, (nI 1, bump m), ?_, co_x hC chv.rf rfl (by omega) (by omega), fun m1 hM1 => ⟨(nI 0, wI (wI m1 130 7 (nI 0)) 130 7 (nI 1)), ?_, mo_x hM1 (by omega) t_x r7⟩⟩
    · refine g_X (j := 0) (m1 := bump m) ?_
      unfold D70
      rw [d123b hb]
      rfl
    · show D178 m1 p1 p2 v = _
      unfold D178
      show Option.bind (D145 p1) _ = _
      rw [d145b hb]
      rfl
end AS
