/-! BUFFER, UNDO, SNAPSHOT -/
section UN
variable {m m1 m2 : dM} {s : gS} {f g : Nat → Int32} {X : Nat × (Nat → Int32)} {i : Nat}
theorem lkS {A : Option (Int32 × dM)} {B : dM → Option (Int32 × dM)} (h : INV m) (H : ∀ s, IC m s → IM m s → ∃ s' x m1, A = some (x, m1) ∧ IC m1 s' ∧ chv cC m m1 ∧ m1.1 = m.1 ∧ (IM m1 s → ∃ m2, B m1 = some (x, m2) ∧ IM m2 s' ∧ chg cM m1 m2)) : OK m (A.bind fun (r1 : Int32 × dM) => (B r1.2).bind fun (r2 : Int32 × dM) => if r1.1 = r2.1 then some (.inl r2.2) else some (.inr r2.2)) := by
  obtain ⟨s, hC, hM⟩ := h
  obtain ⟨s', x, m1, e1, I1, c1, q1, H2⟩ := H s hC hM
  obtain ⟨m2, e2, I2, c2⟩ := H2 (hM.c c1)
  rw [e1]
  show OK m (Option.bind (B m1) _)
  rw [e2]
  refine ⟨m2, ?_, ⟨s', I1.m c2.v c2.2.2.1, I2⟩, .inl (c2.2.2.2.trans q1)⟩
  show (if x = x then _ else _) = _
  rw [if_pos rfl]
def bfS (s : gS) (L : Nat) (cs : Nat → Int32) : gS := (s.1, s.2.1, s.2.2.1, s.2.2.2.1, s.2.2.2.2.1, L, cs)
theorem IC.bf (h : IC m s) {L : Nat} {cs : Nat → Int32} (c : chg (fun b => 42 ≤ b ∧ b ≤ 43) m m1) (hb : BC m1 L cs) : IC m1 (bfS s L cs) := by
  obtain ⟨h1, h2, h3, ⟨b1, b2, b3⟩, -⟩ := h
  refine ⟨h1.ch c (fun b z1 z2 => by omega), h2, h3.chw c.w c.2.2.1 (fun b z1 z2 => by omega) (by rw [c.1 0 (by omega)]), ⟨b1, ?_, fun e => ⟨(b3 e).1.ch c (fun b z1 z2 => by omega), (b3 e).2⟩⟩, hb⟩
  rw [c.1 0 (by omega)]
  exact b2
theorem IM.bf (h : IM m s) {L : Nat} {cs : Nat → Int32} (c : chg (fun b => b = 130 ∨ b = 134) m m1) (c0 : ∀ j, j ≠ 6 → j ≠ 7 → j ≠ 10 → j ≠ 11 → rI m1 130 j = rI m 130 j) (hb : BM m1 L cs) : IM m1 (bfS s L cs) := by
  obtain ⟨h1, ⟨a1, a2⟩, ⟨b1, b2⟩, -⟩ := h
  refine ⟨?_, ⟨?_, fun i hi j hj => ?_⟩, ⟨?_, fun e j hj => ?_⟩, hb⟩
  · rw [c.1 131 (by omega)]; exact h1
  · rw [c0 2 (by omega) (by omega) (by omega) (by omega)]; exact a1
  · rw [c.1 132 (by omega)]; exact a2 i hi j hj
  · rw [c0 4 (by omega) (by omega) (by omega) (by omega)]; exact b1
  · rw [c.1 133 (by omega)]; exact b2 e j hj
theorem k10 (h : INV m) (hi : i + 4 < X.1) (hX : X.1 ≤ 2560) : OK m (C10 X m (nI i)) := by
  unfold C10
  simp only [gx (i := i) (j := 1) (by omega) hX, Option.bind_some]
  refine lkI (A := D255 m (X.2 (i + 1))) (B := fun m1 => D188 m1 (X.2 (i + 1))) h (fun s hC hM => ?_)
  generalize X.2 (i + 1) = p1
  obtain ⟨l60, l1, l2⟩ := hC.2.2.2.2
  rcases rg2 p1 (a := 33) (b := 126) (by omega) (by omega) with ⟨j, hj1, hj2, rfl⟩ | ⟨hb, hb2⟩
  · have hc0 : D80 m (nI j) = if rI m 42 1 < nI 60 then (D11 m (nI j)).bind fun (r1 : Int32 × dM) => some (.inl r1.1, r1.2) else some (.inr 2, bump m) := by
      unfold D80
      rw [if_neg (nI_nlt hj1 (by omega)), if_pos (nI_le hj2 (by omega))]
    have hm0 : ∀ m2, IM m2 s → D188 m2 (nI j) = if nI s.2.2.2.2.2.1 = nI 60 then some (nI 0, wI (wI m2 130 7 (nI 0)) 130 7 (nI 2)) else (sI (wI m2 130 7 (nI 0)) 134 60 (nI s.2.2.2.2.2.1) (nI j)).bind fun (m5 : dM) => (fI m5 130 6 ((rI m5 130 6) + (nI 1))).bind fun (m6 : dM) => some (rI m6 130 6, m6) := by
      intro m2 hM2
      unfold D188
      show Option.bind (D144 (nI j) (nI 33) (nI 126)) _ = _
      rw [in_ok hj1 hj2 (by omega)]
      show (if rI (wI m2 130 7 (nI 0)) 130 6 = nI 60 then _ else Option.bind (sI (wI m2 130 7 (nI 0)) 134 60 (rI (wI m2 130 7 (nI 0)) 130 6) (nI j)) _) = _
      rw [rI_ws, upd_n (by decide), hM2.2.2.2.1]
      rfl
    by_cases q : s.2.2.2.2.2.1 < 60
    · rw [l1, if_pos (nI_lt q (by omega))] at hc0
      have e11 : D11 m (nI j) = some (nI (s.2.2.2.2.2.1 + 1), wI (wI m 43 s.2.2.2.2.2.1 (nI j)) 42 1 (nI (s.2.2.2.2.2.1 + 1))) := by
        unfold D11
        rw [l1, if_neg (nI_ge q (by omega)), sI_n q (by omega), Option.bind_some, fI_e, rI_wn (by decide), l1, nI_add, Option.bind_some, Option.bind_some]
        show some (rI _ 42 1, _) = _
        rw [rI_ws, upd_s]
      rw [e11] at hc0
      have I2 : IC (wI (wI m 43 s.2.2.2.2.2.1 (nI j)) 42 1 (nI (s.2.2.2.2.2.1 + 1))) (bfS s (s.2.2.2.2.2.1 + 1) (upd s.2.2.2.2.2.2 s.2.2.2.2.2.1 (nI j))) := by
        refine hC.bf (chg.wI (chg.wI chg.rf (by omega)) (by omega)) ⟨by omega, by rw [rI_ws, upd_s], fun k hk => ?_⟩
        rw [rI_wn (by decide), rI_ws]
        by_cases e : k = s.2.2.2.2.2.1
        · rw [e, upd_s, upd_s]
        · rw [upd_n e, upd_n e]
          exact l2 k (by omega)
      have hcb : chg (fun b => 42 ≤ b ∧ b ≤ 43) m (wI (wI m 43 s.2.2.2.2.2.1 (nI j)) 42 1 (nI (s.2.2.2.2.2.1 + 1))) := chg.wI (chg.wI chg.rf (by omega)) (by omega)
      have hcc : chv cC m (wI (wI m 43 s.2.2.2.2.2.1 (nI j)) 42 1 (nI (s.2.2.2.2.2.1 + 1))) := hcb.v.mono (fun b q => by unfold cC; omega)
      refine ⟨_, 0, _, _, g_I (x := nI (s.2.2.2.2.2.1 + 1)) (m1 := wI (wI m 43 s.2.2.2.2.2.1 (nI j)) 42 1 (nI (s.2.2.2.2.2.1 + 1))) hc0, co_v (m := m) I2 hcc rfl, fun m2 hM2 => ?_⟩
      refine ⟨(nI (s.2.2.2.2.2.1 + 1), wI (wI (wI m2 130 7 (nI 0)) 134 s.2.2.2.2.2.1 (nI j)) 130 6 (nI (s.2.2.2.2.2.1 + 1))), ?_, ?_, ?_, ?_, fun _ => rfl⟩
      · have hin : rI (wI (wI m2 130 7 (nI 0)) 134 s.2.2.2.2.2.1 (nI j)) 130 6 = nI s.2.2.2.2.2.1 := by rw [rI_wn (by decide), rI_ws, upd_n (by decide), hM2.2.2.2.1]
        show D188 m2 (nI j) = _
        rw [hm0 m2 hM2, if_neg (show ¬ nI s.2.2.2.2.2.1 = nI 60 by rw [nI_eq (by omega) (by omega)]; omega), sI_n q (by omega), Option.bind_some, fI_e, Option.bind_some, hin, nI_add, rI_ws, upd_s]
      · refine hM2.bf (chg.wI (chg.wI (chg.wI chg.rf (by omega)) (by omega)) (by omega)) (fun k z6 z7 _ _ => ?_) ⟨?_, fun k hk => ?_⟩
        · rw [rI_ws, upd_n z6, rI_wn (by decide), rI_ws, upd_n z7]
        · rw [rI_ws, upd_s]
        · rw [rI_wn (by decide), rI_ws, rI_wn (by decide)]
          by_cases e : k = s.2.2.2.2.2.1
          · rw [e, upd_s, upd_s]
          · rw [upd_n e, upd_n e]
            exact hM2.2.2.2.2 k (by omega)
      · show rI (wI (wI (wI m2 130 7 (nI 0)) 134 s.2.2.2.2.2.1 (nI j)) 130 6 (nI (s.2.2.2.2.2.1 + 1))) 130 7 = nI 0
        rw [rI_ws, upd_n (by decide), rI_wn (by decide), rI_ws, upd_s]
      · exact chg.wI (chg.wI (chg.wI chg.rf (by unfold cM; omega)) (by unfold cM; omega)) (by unfold cM; omega)
    · have e60 : s.2.2.2.2.2.1 = 60 := by omega
      rw [l1, if_neg (nI_nlt (by omega) (by omega))] at hc0
      refine ⟨s, 2, 0, (nI 2, bump m), g_X (j := 2) (m1 := bump m) hc0, co_x hC chv.rf rfl (by omega) (by omega), fun m2 hM2 => ⟨(nI 0, wI (wI m2 130 7 (nI 0)) 130 7 (nI 2)), ?_, mo_x hM2 (by omega) t_x r7⟩⟩
      show D188 m2 (nI j) = _
      rw [hm0 m2 hM2, if_pos (by rw [e60])]
  · refine ⟨s, 1, 0, (nI 1, bump m), ?_, co_x hC chv.rf rfl (by omega) (by omega), fun m1 hM1 => ⟨(nI 0, wI (wI m1 130 7 (nI 0)) 130 7 (nI 1)), ?_, mo_x hM1 (by omega) t_x r7⟩⟩
    · refine g_X (j := 1) (m1 := bump m) ?_
      unfold D80
      rcases hb2 with z | ⟨z1, z2⟩
      · rw [if_pos z]
      · rw [if_neg z1, if_neg (Int32.not_le.mpr z2)]
    · show D188 m1 p1 = _
      unfold D188
      show Option.bind (D144 p1 (nI 33) (nI 126)) _ = _
      rw [hb]
      rfl
theorem k11 (h : INV m) : OK m (C11 X m (nI i)) := by
  unfold C11
  refine lkS (A := D81 m) (B := fun m1 => D189 m1) h (fun s hC hM => ?_)
  obtain ⟨l60, l1, l2⟩ := hC.2.2.2.2
  have c1 : chg (fun b => 42 ≤ b ∧ b ≤ 43) m (wI m 42 1 (nI 0)) := chg.wI chg.rf (by omega)
  refine ⟨bfS s 0 s.2.2.2.2.2.2, nI s.2.2.2.2.2.1, wI m 42 1 (nI 0), ?_, hC.bf c1 ⟨by omega, by rw [rI_ws, upd_s], fun k hk => by omega⟩, c1.v.mono (fun b q => by unfold cC; omega), rfl, fun hM2 => ⟨wI (wI (wI m 42 1 (nI 0)) 130 7 (nI 0)) 130 6 (nI 0), ?_, ?_, ?_⟩⟩
  · unfold D81 D12
    show some (rI m 42 1, wI m 42 1 (nI 0)) = _
    rw [l1]
  · unfold D189
    show some (rI (wI (wI m 42 1 (nI 0)) 130 7 (nI 0)) 130 6, _) = _
    rw [rI_ws, upd_n (by decide), hM2.2.2.2.1]
  · refine hM2.bf (chg.wI (chg.wI chg.rf (.inl rfl)) (.inl rfl)) (fun k z6 z7 _ _ => ?_) ⟨?_, fun k hk => by omega⟩
    · rw [rI_ws, upd_n z6, rI_ws, upd_n z7]
    · rw [rI_ws, upd_s]
  · exact chg.wI (chg.wI chg.rf (by unfold cM; omega)) (by unfold cM; omega)
/-- a row taken from elsewhere -/
def cutF (g f : Nat → Int32) : Nat → Int32 := fun j => if j < 299 then g j else f j
theorem cut_e {j : Nat} (h : j < 299) : cutF g f j = g j := if_pos h
/-- a row copied in the reference -/
theorem cpy (A B : Nat) (n0 : Nat) (F : Int32 × dM → Option ((Int32 × dM) ⊕ dM)) (hF : ∀ k m2, k < 299 → chg (fun b => b = B) m m2 → F (nI k, m2) = some (.inl (nI k + nI 1, wI m2 B k (rI m A (n0 + k))))) (hE : ∀ m2, F (nI 299, m2) = some (.inr m2)) : ∃ m', lp (β := dM) 3000 F (nI 0, m) = some m' ∧ chg (fun b => b = B) m m' ∧ ∀ j, rI m' B j = if j < 299 then rI m A (n0 + j) else rI m B j := by
  refine lp_inv (fun k t => t.1 = nI k ∧ chg (fun b => b = B) m t.2 ∧ ∀ j, rI t.2 B j = if j < k then rI m A (n0 + j) else rI m B j) (fun m' => chg (fun b => b = B) m m' ∧ ∀ j, rI m' B j = if j < 299 then rI m A (n0 + j) else rI m B j) 299 (by omega) ⟨rfl, chg.rf, fun j => rfl⟩ ?_ ?_
  · rintro k ⟨t, m2⟩ hk ⟨ht, c2, r2⟩
    replace ht : t = nI k := ht
    replace c2 : chg (fun b => b = B) m m2 := c2
    replace r2 : ∀ j, rI m2 B j = if j < k then rI m A (n0 + j) else rI m B j := r2
    subst ht
    refine .inl ⟨_, hF k m2 hk c2, nI_add k 1, chg.wI c2 rfl, fun j => ?_⟩
    show rI (wI m2 B k (rI m A (n0 + k))) B j = _
    rw [rI_ws]
    by_cases e : j = k
    · subst e
      rw [upd_s, if_pos (by omega)]
    · rw [upd_n e, r2 j]
      by_cases q : j < k
      · rw [if_pos q, if_pos (by omega)]
      · rw [if_neg q, if_neg (by omega)]
  · rintro ⟨t, m2⟩ ⟨ht, c2, r2⟩
    replace ht : t = nI 299 := ht
    subst ht
    exact ⟨m2, hE m2, c2, r2⟩
theorem k16 (h : INV m) : OK m (C16 X m (nI i)) := by
  unfold C16
  refine lkI (A := D258 m) (B := fun m1 => D198 m1) h (fun s hC hM => ?_)
  obtain ⟨n5, n6, h3, h4, h5⟩ := hC.2.2.1
  by_cases q : 0 < s.2.1
  · obtain ⟨n, hn⟩ : ∃ n, s.2.1 = n + 1 := ⟨s.2.1 - 1, by omega⟩
    have hv := h3 n (by omega)
    have hr := isS.rg hv
    obtain ⟨Rn, Vn⟩ := h5 n (by omega)
    have c0 : chg (fun b => b = 0) m (wI m 0 6 (nI n)) := chg.wI chg.rf rfl
    have hk := K41_c (m := wI m 0 6 (nI n)) (A := rR m n) (B := 1)
    have hRK : RC (K41 (rR m n) 1 (wI m 0 6 (nI n))) 1 (s.2.2.1 n) := K41_R (by omega) (Rn.ch c0 (fun b z1 z2 => by omega)) Vn.t61
    have hS1 := k41_1S (m := wI m 0 6 (nI n)) hv
    generalize K41 (rR m n) 1 (wI m 0 6 (nI n)) = K at hk hRK hS1
    have k0 : rI K 0 = upd (rI m 0) 6 (nI n) := (hk.1 0 (by omega)).trans rI_ws
    have hrR : rR K = rR m := hk.2.2.1
    have cA : chg (fun b => b ≤ 17) m K := (c0.mono (fun b q => by omega)).tr (hk.mono (fun b q => by omega))
    have I2 : IC K (cutF (s.2.2.1 n) s.1, n, s.2.2) := by
      obtain ⟨-, -, -, ⟨b1, b2, b3⟩, l1, l2, l3⟩ := hC
      refine ⟨hRK.cgr Vn.t61 (fun x hx => cut_e hx), Vn.cgr (fun x hx => cut_e hx), ⟨by show n ≤ 5; omega, by rw [k0, upd_s], ?_, ?_, fun k hk2 => ?_⟩, ⟨b1, ?_, fun e => ⟨(b3 e).1.ch cA (fun b z1 z2 => by omega), (b3 e).2⟩⟩, l1, ?_, fun k hk2 => ?_⟩
      · rw [hrR]; exact h3
      · rw [hrR]; exact h4
      · rw [hrR]
        have hr2 := isS.rg (h3 k (by show k < 5; have : k < n := hk2; omega))
        have := h5 k (by have : k < n := hk2; omega)
        exact ⟨this.1.ch cA (fun b z1 z2 => by omega), this.2⟩
      · rw [k0, upd_n (by decide)]; exact b2
      · rw [cA.1 42 (by omega)]; exact l2
      · rw [cA.1 43 (by omega)]; exact l3 k hk2
    refine ⟨_, 0, _, _, g_I (x := nI n) (m1 := K) ?_, co_v I2 (cA.v.mono (fun b q => .inl (by omega))) cA.2.2.2, fun m2 hM2 => ?_⟩
    · unfold D86
      rw [n6, if_pos (nI_lt q (by omega)), hn, nI_sub (by omega), show n + 1 - 1 = n from rfl, fI_e, Option.bind_some, rI_ws, upd_s, gR_n (by omega), Option.bind_some]
      show Option.bind (D41_1_S (wI m 0 6 (nI n)) (rR m n)) _ = _
      rw [hS1]
      show some (Sum.inl (rI K 0 6), K) = _
      rw [k0, upd_s]
    · obtain ⟨e131, ⟨e130, e132⟩, ⟨k1, k2⟩, l1, l2⟩ := hM2
      have r130 : rI (wI (wI m2 130 7 (nI 0)) 130 2 (nI n)) 130 2 = nI n := by rw [rI_ws, upd_s]
      obtain ⟨m', e', c', r'⟩ := cpy (m := wI (wI m2 130 7 (nI 0)) 130 2 (nI n)) 132 131 (299 * n) (fun (s4 : Int32 × dM) => if (nI 299) ≤ s4.1 then some (.inr s4.2) else (gI s4.2 132 1495 (((nI 299) * (rI s4.2 130 2)) + s4.1)).bind fun (x6 : Int32) => (sI s4.2 131 299 s4.1 x6).bind fun (m7 : dM) => some (.inl (s4.1 + (nI 1), m7))) (fun k m3 hk c3 => by
        show (if nI 299 ≤ nI k then _ else Option.bind (gI m3 132 1495 (nI 299 * rI m3 130 2 + nI k)) _) = _
        rw [if_neg (nI_ge hk (by omega)), c3.1 130 (by omega), r130, nI_mul, nI_add, gI_n (by omega) (by omega), c3.1 132 (by omega)]
        show Option.bind (sI m3 131 299 (nI k) _) _ = _
        rw [sI_n hk (by omega)]
        rfl) (fun m3 => by
        show (if nI 299 ≤ nI 299 then _ else _) = _
        rw [if_pos (nI_le (Nat.le_refl 299) (by omega))])
      have a130 : rI m' 130 = upd (upd (rI m2 130) 7 (nI 0)) 2 (nI n) := by rw [c'.1 130 (by omega), rI_ws, rI_ws]
      have cA2 : chg (fun b => b = 130 ∨ b = 131) m2 m' := (chg.wI (chg.wI chg.rf (.inl rfl)) (.inl rfl)).tr (c'.mono (fun b q => .inr q))
      refine ⟨(nI n, m'), ?_, ⟨?_, ⟨?_, fun k hk j hj => ?_⟩, ⟨?_, fun e j hj => ?_⟩, ?_, fun k hk => ?_⟩, ?_, cA2.mono (fun b q => by unfold cM; omega), fun _ => rfl⟩
      · show D198 m2 = _
        unfold D198
        show (if rI (wI m2 130 7 (nI 0)) 130 2 = nI 0 then _ else Option.bind (fI (wI m2 130 7 (nI 0)) 130 2 (rI (wI m2 130 7 (nI 0)) 130 2 - nI 1)) _) = _
        rw [rI_ws, upd_n (by decide), e130, if_neg (show ¬ nI s.2.1 = nI 0 by rw [nI_eq (by omega) (by omega)]; omega), hn, nI_sub (by omega), show n + 1 - 1 = n from rfl, fI_e, Option.bind_some, e', Option.bind_some, a130, upd_s]
      · funext j
        rw [r' j]
        show _ = cutF (s.2.2.1 n) s.1 j
        unfold cutF
        rw [rI_wn (by decide), rI_wn (by decide), rI_wn (by decide), rI_wn (by decide), e131]
        by_cases z : j < 299
        · rw [if_pos z, if_pos z, e132 n (by omega) j z]
        · rw [if_neg z, if_neg z]
      · rw [a130, upd_s]
      · rw [cA2.1 132 (by omega)]
        exact e132 k (by have : k < n := hk; omega) j hj
      · rw [a130, upd_n (by decide), upd_n (by decide)]; exact k1
      · rw [cA2.1 133 (by omega)]; exact k2 e j hj
      · rw [a130, upd_n (by decide), upd_n (by decide)]; exact l1
      · rw [cA2.1 134 (by omega)]; exact l2 k hk
      · show rI m' 130 7 = nI 0
        rw [a130, upd_n (by decide), upd_s]
  · have e0 : s.2.1 = 0 := by omega
    refine ⟨s, 1, 0, (nI 1, bump m), ?_, co_x hC chv.rf rfl (by omega) (by omega), fun m1 hM1 => ⟨(nI 0, wI (wI m1 130 7 (nI 0)) 130 7 (nI 1)), ?_, mo_x hM1 (by omega) t_x r7⟩⟩
    · refine g_X (j := 2) (m1 := bump m) ?_
      unfold D86
      rw [n6, e0, if_neg (by decide)]
    · show D198 m1 = _
      unfold D198
      show (if rI (wI m1 130 7 (nI 0)) 130 2 = nI 0 then _ else _) = _
      rw [rI_ws, upd_n (by decide), hM1.2.1.1, e0, if_pos rfl]
      rfl
theorem k17 (h : INV m) : OK m (C17 X m (nI i)) := by
  unfold C17
  refine lkS (A := D87 m) (B := fun m1 => D199 m1) h (fun s hC hM => ?_)
  have V := hC.V
  have hk := K41_c (m := m) (A := 1) (B := 19)
  have hRK : RC (K41 1 19 m) 19 s.1 := K41_R (by omega) hC.R V.t61
  have hS1 := k41_k (m := m)
  generalize K41 1 19 m = K at hk hRK hS1
  have k0 : rI K 0 = rI m 0 := hk.1 0 (by omega)
  have cA : chg (fun b => b = 0 ∨ (19 ≤ b ∧ b ≤ 35)) m (wI K 0 7 (nI 1)) := (hk.mono (fun b q => by omega)).wI (.inl rfl)
  refine ⟨(s.1, s.2.1, s.2.2.1, 1, s.1, s.2.2.2.2.2), s.1 168, wI K 0 7 (nI 1), ?_, ?_, cA.v.mono (fun b q => .inl (by omega)), cA.2.2.2, fun hM2 => ?_⟩
  · unfold D87
    rw [hS1, Option.bind_some, fI_e, Option.bind_some, rI_wn (by decide), hk.1 1 (by omega), hC.R.tn]
  · obtain ⟨h1, h2, ⟨a1, a2, a3, a4, a5⟩, -, l1, l2, l3⟩ := hC
    refine ⟨h1.ch cA (fun b z1 z2 => by omega), h2, ⟨a1, ?_, ?_, ?_, fun k hk2 => ?_⟩, ⟨by show 1 < 2; omega, by rw [rI_ws, upd_s], fun _ => ⟨hRK.ch (chg.wI (S := fun b => b = 0) chg.rf rfl) (fun b z1 z2 => by omega), h2⟩⟩, l1, ?_, fun k hk2 => ?_⟩
    · rw [rI_ws, upd_n (by decide), k0]; exact a2
    · rw [cA.2.2.1]; exact a3
    · rw [cA.2.2.1]; exact a4
    · rw [cA.2.2.1]
      have := isS.rg (a3 k (by have : k < s.2.1 := hk2; omega))
      exact ⟨(a5 k hk2).1.ch cA (fun b z1 z2 => by omega), (a5 k hk2).2⟩
    · rw [cA.1 42 (by omega)]; exact l2
    · rw [cA.1 43 (by omega)]; exact l3 k hk2
  · obtain ⟨e131, ⟨e130, e132⟩, ⟨k1, k2⟩, l1, l2⟩ := hM2
    generalize wI K 0 7 (nI 1) = M at e131 e130 e132 k1 k2 l1 l2
    obtain ⟨m', e', c', r'⟩ := cpy (m := wI M 130 7 (nI 0)) 131 133 0 (fun (s2 : Int32 × dM) => if (nI 299) ≤ s2.1 then some (.inr s2.2) else (gI s2.2 131 299 s2.1).bind fun (x4 : Int32) => (sI s2.2 133 299 s2.1 x4).bind fun (m5 : dM) => some (.inl (s2.1 + (nI 1), m5))) (fun k m3 hk c3 => by
      show (if nI 299 ≤ nI k then _ else Option.bind (gI m3 131 299 (nI k)) _) = _
      rw [if_neg (nI_ge hk (by omega)), gI_n hk (by omega), c3.1 131 (by omega)]
      show Option.bind (sI m3 133 299 (nI k) _) _ = _
      rw [sI_n hk (by omega), Nat.zero_add]
      rfl) (fun m3 => by
      show (if nI 299 ≤ nI 299 then _ else _) = _
      rw [if_pos (nI_le (Nat.le_refl 299) (by omega))])
    have e1 : rI (wI M 130 7 (nI 0)) 131 = s.1 := f7.trans e131
    have cA2 : chg (fun b => b = 130 ∨ b = 133) M (wI m' 130 4 (nI 1)) := ((chg.wI chg.rf (.inl rfl)).tr (c'.mono (fun b q => .inr q))).wI (.inl rfl)
    have a130 : rI (wI m' 130 4 (nI 1)) 130 = upd (upd (rI M 130) 7 (nI 0)) 4 (nI 1) := by rw [rI_ws, c'.1 130 (by omega), rI_ws]
    refine ⟨wI m' 130 4 (nI 1), ?_, ⟨?_, ⟨?_, fun k hk j hj => ?_⟩, ⟨?_, fun e j hj => ?_⟩, ?_, fun k hk => ?_⟩, cA2.mono (fun b q => by unfold cM; omega)⟩
    · show D199 M = _
      unfold D199
      rw [fI_e, Option.bind_some, e', Option.bind_some, fI_e, Option.bind_some, rI_wn (by decide), c'.1 131 (by omega), e1]
    · rw [cA2.1 131 (by omega)]; exact e131
    · rw [a130, upd_n (by decide), upd_n (by decide)]; exact e130
    · rw [cA2.1 132 (by omega)]; exact e132 k hk j hj
    · rw [a130, upd_s]
    · rw [rI_wn (by decide), r' j, if_pos hj, e1, Nat.zero_add]
    · rw [a130, upd_n (by decide), upd_n (by decide)]; exact l1
    · rw [cA2.1 134 (by omega)]; exact l2 k hk
theorem k18 (h : INV m) : OK m (C18 X m (nI i)) := by
  unfold C18
  refine lkI (A := D259 m) (B := fun m1 => D200 m1) h (fun s hC hM => ?_)
  obtain ⟨b1, b2, b3⟩ := hC.2.2.2.1
  by_cases q : s.2.2.2.1 = 1
  · obtain ⟨RG, VG⟩ := b3 q
    obtain ⟨m1, e1, I1, c1⟩ := hC.sv
    obtain ⟨-, -, b3'⟩ := I1.2.2.2.1
    have RG1 : RC m1 19 s.2.2.2.2.1 := (b3' q).1
    have hk := K41_c (m := m1) (A := 19) (B := 1)
    have hRK : RC (K41 19 1 m1) 1 s.2.2.2.2.1 := K41_R (by omega) RG1 VG.t61
    have hS1 := k41_r (m := m1)
    generalize K41 19 1 m1 = K at hk hRK hS1
    have cK : chg nowC m1 K := hk.mono (fun b q => .inl (by omega))
    have RK : RC K 1 (cutF s.2.2.2.2.1 s.1) := hRK.cgr VG.t61 (fun x hx => cut_e hx)
    have VK : rv (cutF s.2.2.2.2.1 s.1) := VG.cgr (fun x hx => cut_e hx)
    have I2 := I1.nowc cK RK VK
    refine ⟨_, 0, _, _, g_I (x := cutF s.2.2.2.2.1 s.1 168) (m1 := K) ?_, co_n c1 cK I2, fun m2 hM2 => ?_⟩
    · unfold D88
      rw [b2, q, if_neg (by decide), e1, Option.bind_some, hS1, Option.bind_some, RK.tn]
    · obtain ⟨mB, eB, IB, cB, tB⟩ := (hM2.w7 (v := nI 0)).sv hC.n5
      obtain ⟨e131, -, ⟨k1, k2⟩, -⟩ := id IB
      have k2' : ∀ j, j < 299 → rI mB 133 j = s.2.2.2.2.1 j := k2 q
      obtain ⟨m', e', c', r'⟩ := cpy (m := mB) 133 131 0 (fun (s4 : Int32 × dM) => if (nI 299) ≤ s4.1 then some (.inr s4.2) else (gI s4.2 133 299 s4.1).bind fun (x6 : Int32) => (sI s4.2 131 299 s4.1 x6).bind fun (m7 : dM) => some (.inl (s4.1 + (nI 1), m7))) (fun k m3 hk c3 => by
        show (if nI 299 ≤ nI k then _ else Option.bind (gI m3 133 299 (nI k)) _) = _
        rw [if_neg (nI_ge hk (by omega)), gI_n hk (by omega), c3.1 133 (by omega)]
        show Option.bind (sI m3 131 299 (nI k) _) _ = _
        rw [sI_n hk (by omega), Nat.zero_add]
        rfl) (fun m3 => by
        show (if nI 299 ≤ nI 299 then _ else _) = _
        rw [if_pos (nI_le (Nat.le_refl 299) (by omega))])
      have rrow : rI m' 131 = cutF s.2.2.2.2.1 s.1 := by
        funext j
        rw [r' j]
        unfold cutF
        by_cases z : j < 299
        · rw [if_pos z, if_pos z, Nat.zero_add, k2' j z]
        · rw [if_neg z, if_neg z, e131]
          rfl
      have cC2 : chg rowM mB m' := c'.mono (fun b q => .inl q)
      refine ⟨(cutF s.2.2.2.2.1 s.1 168, m'), ?_, mo_n rfl cB tB cC2 (IB.nw cC2 rrow)⟩
      show D200 m2 = _
      unfold D200
      show (if rI (wI m2 130 7 (nI 0)) 130 4 = nI 0 then _ else Option.bind (D149 (wI m2 130 7 (nI 0))) _) = _
      rw [rI_ws, upd_n (by decide), hM2.2.2.1.1, q, if_neg (by decide), eB, Option.bind_some, e', Option.bind_some, rrow]
  · have e0 : s.2.2.2.1 = 0 := by omega
    refine ⟨s, 1, 0, (nI 1, bump m), ?_, co_x hC chv.rf rfl (by omega) (by omega), fun m1 hM1 => ⟨(nI 0, wI (wI m1 130 7 (nI 0)) 130 7 (nI 1)), ?_, mo_x hM1 (by omega) t_x r7⟩⟩
    · refine g_X (j := 2) (m1 := bump m) ?_
      unfold D88
      rw [b2, e0, if_pos rfl]
    · show D200 m1 = _
      unfold D200
      show (if rI (wI m1 130 7 (nI 0)) 130 4 = nI 0 then _ else _) = _
      rw [rI_ws, upd_n (by decide), hM1.2.2.1.1, e0, if_pos rfl]
      rfl
end UN
